/** The tape and rows on it: promises 10 to 13. */
public final class TapeTest {
    private TapeTest() {
    }

    public static void main(String[] args) {
        feedAndEnd();
        bytes();
        row();
        Due.end("TapeTest");
    }

    /** Promises 10 and 11. */
    private static void feedAndEnd() {
        LedgerHounds x = new LedgerHounds();
        for (int i = 1; i <= 20; i++) {
            Due.is("feed", x.feed(i, i, i, i, i), 20 * i);
        }
        Due.is("feed beyond 400", x.feed(0, 0, 0, 0, 0), -1);
        Due.is("count(6)", x.count(6), 400);
        Due.is("end(401)", x.end(401), -1);
        Due.is("end(-1)", x.end(-1), -1);
        Due.is("end(400)", x.end(400), 400);
        Due.is("end(381)", x.end(381), 381);
        Due.is("feed beyond 400", x.feed(0, 0, 0, 0, 0), -1);
        Due.is("end(380)", x.end(380), 380);
        Due.is("feed to 400", x.feed(0, 0, 0, 0, 0), 400);
        Due.is("end(0)", x.end(0), 0);
        Due.is("end(1)", x.end(1), -1);
        Due.is("nothing of that is REFUSED", x.count(7) + x.status(), 0);
    }

    /** The highest byte first, bytes above 127 too. */
    private static void bytes() {
        LedgerHounds x = new LedgerHounds();
        x.feed(0x01020304, 0x05060708, 0x090b0001, 0x0c09630d, 0x07000e00);
        Due.is("row", x.row(), 6);
        Due.is("smudges", x.smudges(), 1);
        Due.is("at(1, 0)", x.at(1, 0), 203);
        Due.is("at(4, 0)", x.at(4, 0), 506);
        Due.is("at(7, 0)", x.at(7, 0), 809);
        Due.is("at(11, 0)", x.at(11, 0), 1);
        Due.is("at(12, 0)", x.at(12, 0), 999);
        Due.is("at(13, 0)", x.at(13, 0), 700 + 0);
        Due.tape(x, new String(new char[] {255, 0, 0, 3, 128, 0, 4, 0, 200}));
        Due.is("row of high bytes", x.row(), 0);
        Due.is("smudges", x.smudges(), 3);
    }

    /** Promises 12 and 13. */
    private static void row() {
        LedgerHounds x = new LedgerHounds();
        Due.is("row of nothing", x.row(), -6);
        Due.is("status", x.status(), -6);
        Due.is("smudges ahead of any", x.smudges(), 0);
        x.pass();
        Due.tape(x, new String(new char[] {24, 9, 99, 25, 0, 0, 1, 10, 0, 2, 0, 100, 3, 0, 7, 3, 0, 8, 4, 0}));
        Due.is("row", x.row(), 3);
        Due.is("smudges", x.smudges(), 4);
        Due.is("at(24, 0)", x.at(24, 0), 999);
        Due.is("the later one", x.at(3, 0), 8);
        Due.is("at(1, 0)", x.at(1, 0), 0);
        Due.is("the tape is empty", x.count(6), 0);
        Due.is("nothing can be undone", x.undo(), -3);
        Due.is("row of nothing", x.row(), -6);
        Due.is("smudges of the latest that was read", x.smudges(), 4);
        x.pass();
        Due.tape(x, new String(new char[] {4}));
        Due.is("a smudge alone", x.row(), 0);
        Due.is("smudges", x.smudges(), 1);
        Due.is("nothing can be undone", x.count(5), 0);
        Due.tape(x, new String(new char[] {4, 0, 0}));
        Due.is("row", x.row(), 1);
        Due.is("smudges", x.smudges(), 0);
    }
}
