import java.util.function.Consumer;
import java.util.function.IntUnaryOperator;

/** ENTRIES, sums, CLERKS, TERMS, takings, shiftings, fences, days and undoing at their edges: Terms I and III, promises 1 to 9, 19 to 23. */
public final class DeedEdgesTest {
    private DeedEdgesTest() {
    }

    public static void main(String[] args) {
        atFirst();
        whatItWas();
        offBy();
        clerksNoRoom();
        takesAtMost();
        oneAtLeast();
        handAtMost();
        shifted();
        fences();
        days();
        sixteenAreKept();
        undoneEach();
        nothingAhead();
        Due.end("DeedEdgesTest");
    }

    /** "(0 at first)", "a FENCE or none (at first)", "1 SLIP 0 .. 10 (1)", "(NONE at first: no CLAUSE)". */
    private static void atFirst() {
        LedgerHounds x = new LedgerHounds();
        for (int c = 0; c < 25; c++) {
            Due.is("ENTRY of " + c, x.at(c, 0), 0);
            Due.is("FENCE of " + c, x.at(c, 1), 0);
        }
        for (int i = 0; i < 5; i++) {
            Due.is("TOLD of ROW " + i, x.told(0, i, 1), 0);
            Due.is("TOLD of COLUMN " + i, x.told(1, i, 1), 0);
        }
        Due.is("DAY", x.terms(0, 5), 0);
        Due.is("SLIP", x.terms(1, 5), 1);
        Due.is("MOOD", x.terms(2, 5), 0);
        Due.is("LAW in FORCE", x.force(-1), -1);
        for (int i = 0; i < 5; i++) {
            Due.is("CLERK " + i, x.clerk(9), i);
            Due.is("HAND of CLERK " + i, x.of(i, 1), 0);
        }
        Due.is("SEEN", x.seen(0, 0, 0), 1);
        Due.is("BOOKED", x.booked(0, 1, 1), 1);
        Due.is("undo", x.undo(), -3);
        Due.is("constants", LedgerHounds.NONE * 1000000 + LedgerHounds.NOTHING - LedgerHounds.OUT, -1100025);
    }

    private static void was(String call, int atFirst, int most, IntUnaryOperator put) {
        int was = atFirst;
        for (int n : new int[] {most, 0, 0, 1, most - 1, most - 1, most, 0}) {
            Due.is(call + " of " + n, put.applyAsInt(n), was);
            was = n;
        }
    }

    /** "what it was": of enter(), told(), terms(), the same number again, too. */
    private static void whatItWas() {
        LedgerHounds x = new LedgerHounds();
        for (int i = 0; i < 5; i += 4) {
            int line = i;
            was("enter(" + 6 * i + ")", 0, 999, n -> x.enter(6 * line, n));
            was("told of ROW " + i, 0, 9999, n -> x.told(0, line, n));
            was("told of COLUMN " + i, 0, 9999, n -> x.told(1, line, n));
        }
        was("DAY", 0, 999, n -> x.terms(0, n));
        was("SLIP", 1, 10, n -> x.terms(1, n));
        was("MOOD", 0, 9, n -> x.terms(2, n));
        for (int c = 0; c < 25; c++) {
            Due.is("enter(" + c + ")", x.enter(c, 40 * c), 0);
        }
        for (int c = 0; c < 25; c++) {
            Due.is("at(" + c + ")", x.at(c, 0), 40 * c);
        }
        for (int i = 0; i < 3; i++) {
            x.terms(i, 7 + i);
        }
        Due.is("each TERM its own", x.count(13) * 100 + x.count(14) * 10 + x.count(15), 789);
    }

    /** "it is OFF by what was TOLD less what its ENTRIES come to": most of either side. */
    private static void offBy() {
        LedgerHounds x = new LedgerHounds();
        for (int kind = 0; kind < 2; kind++) {
            for (int i = 0; i < 5; i++) {
                x.told(kind, i, 9999);
                Due.is("off(" + kind + ", " + i + ")", x.off(kind, i), 9999);
            }
        }
        for (int c = 0; c < 25; c++) {
            x.enter(c, 999);
        }
        for (int kind = 0; kind < 2; kind++) {
            for (int i = 0; i < 5; i++) {
                Due.is("off(" + kind + ", " + i + ")", x.off(kind, i), 5004);
                x.told(kind, i, 0);
                Due.is("off(" + kind + ", " + i + ")", x.off(kind, i), -4995);
                x.told(kind, i, 4995);
                Due.is("off(" + kind + ", " + i + ")", x.off(kind, i), 0);
            }
        }
        x.enter(24, 998);
        Due.is("its ROW", x.off(0, 4), 1);
        Due.is("its COLUMN", x.off(1, 4), 1);
        Due.is("no other ROW", x.off(0, 3), 0);
        Due.is("no other COLUMN", x.off(1, 3), 0);
    }

    /** "CLERKS 0 .. 4 (5 at most)"; "-1; -5". */
    private static void clerksNoRoom() {
        LedgerHounds x = new LedgerHounds();
        int[] keen = {0, 9, 1, 8, 5};
        for (int i = 0; i < 5; i++) {
            Due.is("not there yet", x.of(i, 0), -1);
            Due.is("so many", x.count(0), i);
            Due.is("the number", x.clerk(keen[i]), i);
            Due.is("KEEN", x.of(i, 0), keen[i]);
        }
        Due.is("no room", x.clerk(3), -5);
        Due.is("no room", x.status(), -5);
        Due.is("five", x.count(0), 5);
        Due.is("no sixth", x.of(5, 0), -1);
        for (int i = 0; i < 5; i++) {
            Due.is("as they were", x.of(i, 0), keen[i]);
        }
    }

    private static LedgerHounds taking(String law, int entry) {
        LedgerHounds x = Due.under(law);
        x.clerk(1);
        x.enter(0, entry);
        return x;
    }

    private static void taken(String law, int entry, int due) {
        LedgerHounds x = taking(law, entry);
        Due.is("take of " + entry + " by " + law, x.take(0, 0), due);
        int less = Math.max(0, due);
        Due.is("ENTRY of " + entry + " by " + law, x.at(0, 0), entry - less);
        Due.is("HAND of " + entry + " by " + law, x.of(0, 1), less);
        Due.is("can be undone", x.count(5), due < 0 ? 0 : 1);
    }

    /** "takes of an ENTRY what it TAKES, as much as there is". */
    private static void takesAtMost() {
        taken("takes 99", 98, 98);
        taken("takes 99", 99, 99);
        taken("takes 99", 100, 99);
        taken("takes 100", 999, 99);
        taken("takes 1000*1000*1000", 999, 99);
        taken("bites", 9, 9);
        taken("bites", 10, 10);
        taken("bites", 11, 10);
        taken("takes 1", 999, 1);
        taken("takes entry", 50, 50);
        taken("takes entry - 1", 50, 49);
    }

    /** "(1 at least)", "a CLERK that is not BARRED". */
    private static void oneAtLeast() {
        taken("takes 1", 1, 1);
        taken("takes 1", 0, -3);
        taken("takes 99", 0, -3);
        taken("takes 99", 1, 1);
        taken("takes 0", 1, -3);
        taken("takes 0", 999, -3);
        taken("takes 0 - 5", 999, -3);
        taken("bars", 999, -3);
        taken("bars if clerk = 0", 999, -3);
        taken("bars if clerk = 1", 999, 10);
        taken("bars if 1/0 = 1", 999, 10);
    }

    /** CLERK 0 with this HAND; 999 in each CELL from 11 on. */
    private static LedgerHounds handOf(int hand) {
        LedgerHounds x = Due.under("takes 99; takes 1 if day = 1; takes 2 if day = 2");
        x.clerk(1);
        for (int c = 0; c < 25; c++) {
            x.enter(c, 999);
        }
        String text = "take done/10 by 0 times 20";
        Due.orders(x, text + (";" + text).repeat(4));
        int more = hand - 9900;
        x.enter(10, more);
        if (more > 0) {
            x.take(10, 0);
        }
        Due.is("HAND", x.of(0, 1), hand);
        x.terms(2, 0);
        return x;
    }

    /** "HAND more by that (9,999 at most)". */
    private static void handAtMost() {
        int[][] due = {{9900, 0, 99, 9999}, {9901, 0, 99, 9999}, {9997, 1, 1, 9998}, {9997, 2, 2, 9999}, {9998, 1, 1, 9999},
            {9998, 2, 2, 9999}, {9999, 1, 1, 9999}, {9999, 0, 99, 9999}};
        for (int[] d : due) {
            LedgerHounds x = handOf(d[0]);
            x.terms(0, d[1]);
            Due.is("take with HAND " + d[0], x.take(20, 0), d[2]);
            Due.is("HAND", x.of(0, 1), d[3]);
            Due.is("the ENTRY is less by that", x.at(20, 0), 999 - d[2]);
            Due.is("undo", x.undo(), 0);
            Due.is("HAND as it was", x.of(0, 1), d[0]);
            Due.is("ENTRY as it was", x.at(20, 0), 999);
        }
    }

    private static void shifts(int there, int other, int n, int due) {
        LedgerHounds x = new LedgerHounds();
        x.enter(24, there);
        x.enter(0, other);
        String call = "shift of " + n + " of " + there + " to " + other;
        Due.is(call, x.shift(24, 0, n), due);
        int less = due < 0 ? 0 : n;
        Due.is(call + ": from", x.at(24, 0), there - less);
        Due.is(call + ": to", x.at(0, 0), other + less);
        Due.is(call + ": can be undone", x.count(5), due < 0 ? 0 : 1);
    }

    /** "To SHIFT 1 .. 999 from an ENTRY that has as much to another one (999 there at most)"; "what is left". */
    private static void shifted() {
        shifts(1, 0, 1, 0);
        shifts(999, 0, 999, 0);
        shifts(999, 0, 998, 1);
        shifts(999, 0, 1, 998);
        shifts(998, 0, 999, -3);
        shifts(0, 0, 1, -3);
        shifts(5, 0, 6, -3);
        shifts(5, 994, 5, 0);
        shifts(5, 995, 5, -3);
        shifts(5, 999, 1, -3);
        shifts(5, 998, 1, 4);
        shifts(999, 999, 999, -3);
        shifts(999, 1, 999, -3);
        shifts(999, 0, 0, -1);
        shifts(999, 0, 1000, -1);
        shifts(999, 0, -1, -1);
    }

    /** "a CELL without a FENCE has one, one with a FENCE has none": none, all of them, none again. */
    private static void fences() {
        LedgerHounds x = new LedgerHounds();
        for (int c = 0; c < 25; c++) {
            Due.is("so many", x.count(1), c);
            Due.is("fence(" + c + ")", x.fence(c), 1);
            Due.is("at(" + c + ", 1)", x.at(c, 1), 1);
        }
        Due.is("all", x.count(1), 25);
        for (int c = 24; c >= 0; c--) {
            Due.is("fence(" + c + ")", x.fence(c), 0);
            Due.is("at(" + c + ", 1)", x.at(c, 1), 0);
            Due.is("so many", x.count(1), c);
        }
    }

    /** "A DAY passes (DAY below 999)". */
    private static void days() {
        LedgerHounds x = new LedgerHounds();
        Due.is("the first", x.pass(), 1);
        x.terms(0, 997);
        Due.is("998", x.pass(), 998);
        Due.is("999", x.pass(), 999);
        Due.is("no more", x.pass(), -3);
        Due.is("DAY", x.count(13), 999);
        Due.is("two can be undone", x.count(5), 2);
        Due.is("undo", x.undo(), 3);
        Due.is("DAY", x.count(13), 998);
        Due.is("999 again", x.pass(), 999);
    }

    /** "16 are kept": the 16th, the 17th, of each kind. */
    private static void sixteenAreKept() {
        for (int kind = 0; kind < 4; kind++) {
            LedgerHounds x = new LedgerHounds();
            x.clerk(1);
            x.enter(0, 999);
            for (int i = 1; i <= 18; i++) {
                deed(x, kind);
                Due.is("so many of kind " + kind, x.count(5), Math.min(i, 16));
            }
            for (int i = 15; i >= 0; i--) {
                Due.is("undo", x.undo(), kind);
                Due.is("so many of kind " + kind, x.count(5), i);
            }
            Due.is("there is none", x.undo(), -3);
            Due.is("none is left", x.count(5), 0);
            int[] left = {979, 997, 999, 999};
            Due.is("two are not undone", x.at(0, 0), left[kind]);
            Due.is("two are not undone", x.of(0, 1) / 10 + x.at(24, 0) + x.count(13), kind == 2 ? 0 : 2);
        }
        LedgerHounds x = new LedgerHounds();
        x.pass();
        for (int i = 0; i < 16; i++) {
            x.fence(i);
        }
        for (int i = 0; i < 16; i++) {
            Due.is("the seventeenth is not kept", x.undo(), 2);
        }
        Due.is("the seventeenth is not kept", x.undo(), -3);
        Due.is("the seventeenth is not undone", x.count(13), 1);
    }

    private static void deed(LedgerHounds x, int kind) {
        switch (kind) {
            case 0: x.take(0, 0); break;
            case 1: x.shift(0, 24, 1); break;
            case 2: x.fence(3); break;
            default: x.pass(); break;
        }
    }

    /** "is undone: 0 .. 3"; the CELLS and CLERKS at either end. */
    private static void undoneEach() {
        LedgerHounds x = new LedgerHounds();
        for (int i = 0; i < 5; i++) {
            x.clerk(i);
        }
        x.enter(0, 7);
        x.enter(24, 999);
        x.take(0, 4);
        x.shift(24, 0, 999);
        x.fence(24);
        x.fence(0);
        x.fence(24);
        x.pass();
        x.take(0, 0);
        Due.is("undo take", x.undo() * 1000 + x.at(0, 0), 999);
        Due.is("HAND", x.of(0, 1), 0);
        Due.is("undo pass", x.undo() * 10 + x.count(13), 30);
        Due.is("undo fence", x.undo() * 10 + x.at(24, 1), 21);
        Due.is("undo fence", x.undo() * 10 + x.at(0, 1), 20);
        Due.is("undo fence", x.undo() * 10 + x.at(24, 1), 20);
        Due.is("undo shift", x.undo() * 10000 + x.at(24, 0) + x.at(0, 0), 10999);
        Due.is("undo take", x.undo() * 10000 + x.at(0, 0) * 10 + x.of(4, 1), 70);
        Due.is("there is none", x.undo(), -3);
        Due.is("what was undone can't be again", x.count(5), 0);
        Due.is("anew", x.fence(5) * 10 + x.count(5), 11);
    }

    private static void ahead(String call, boolean gone, Consumer<LedgerHounds> made) {
        LedgerHounds x = new LedgerHounds();
        x.clerk(1);
        x.enter(0, 50);
        x.pass();
        x.fence(1);
        made.accept(x);
        Due.is("can be undone behind " + call, x.count(5), gone ? 0 : 2);
        Due.is("undo behind " + call, x.undo(), gone ? -3 : 2);
        x.pass();
        Due.is("what comes behind " + call, x.undo(), 3);
    }

    /** "nothing that was ahead of an enter(), clerk(), row(), terms() that was not REFUSED can be undone". */
    private static void nothingAhead() {
        ahead("enter()", true, x -> x.enter(3, 5));
        ahead("enter() of the same", true, x -> x.enter(0, 50));
        ahead("clerk()", true, x -> x.clerk(2));
        ahead("terms()", true, x -> x.terms(0, 5));
        ahead("terms() of the same", true, x -> x.terms(1, 1));
        ahead("row()", true, x -> {
            Due.tape(x, Due.bytes(1, 2, 3));
            x.row();
        });
        ahead("row() of a SMUDGE alone", true, x -> {
            Due.tape(x, Due.bytes(255));
            x.row();
        });
        ahead("enter() REFUSED", false, x -> x.enter(25, 5));
        ahead("clerk() REFUSED", false, x -> x.clerk(10));
        ahead("terms() REFUSED", false, x -> x.terms(3, 0));
        ahead("row() REFUSED", false, x -> x.row());
        ahead("told()", false, x -> x.told(0, 0, 9));
        ahead("law(), force()", false, x -> {
            Due.law(x, "leads 1");
            x.force(0);
        });
        ahead("seen(), booked(), forget()", false, x -> {
            x.seen(0, 0, 0);
            x.booked(0, 1, 1);
            x.forget();
        });
        ahead("weeks()", false, x -> x.weeks(1, 60));
        ahead("image()", false, x -> x.image(1));
        ahead("back() REFUSED", false, x -> x.back(1));
        ahead("orders() that run nothing", false, x -> Due.orders(x, "pass if 1=2"));
        ahead("orders() REFUSED", false, x -> Due.orders(x, "fence 3; fence 25"));
        ahead("deeds REFUSED", false, x -> {
            x.take(3, 0);
            x.shift(3, 4, 1);
            x.fence(25);
        });
        ahead("image() and back()", true, x -> {
            x.image(0);
            x.back(0);
        });
    }
}
