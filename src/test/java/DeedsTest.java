/** Takings, shiftings, fences, days, and all undone: promises 19 to 23. */
public final class DeedsTest {
    private DeedsTest() {
    }

    public static void main(String[] args) {
        take();
        fullHand();
        fullHandUndone();
        shift();
        fence();
        pass();
        undo();
        notUndone();
        Due.end("DeedsTest");
    }

    /** Promise 19. */
    private static void take() {
        LedgerHounds x = Due.under("takes keen * 10; bars if row = 1; bars if clerk = 1 and day > 3");
        Due.is("no such clerk yet", x.take(0, 0), -2);
        Due.is("a wrong cell first", x.take(25, 0), -1);
        x.clerk(4);
        x.clerk(1);
        x.clerk(0);
        x.enter(0, 100);
        x.enter(5, 100);
        Due.is("take", x.take(0, 0), 40);
        Due.is("take", x.take(0, 1), 10);
        Due.is("entry", x.at(0, 0), 50);
        Due.is("hands", x.of(0, 1) * 100 + x.of(1, 1), 4010);
        Due.is("takes nothing", x.take(0, 2), -3);
        Due.is("barred", x.take(5, 0), -3);
        Due.is("take", x.take(0, 0), 40);
        Due.is("as much as there is", x.take(0, 0), 10);
        Due.is("nothing there", x.take(0, 0), -3);
        Due.is("status", x.status(), -3);
        Due.is("wrong cells", x.take(-1, 0) + x.take(25, 9), -2);
        Due.is("no such clerks", x.take(0, 3) + x.take(0, -1) + x.take(0, Integer.MIN_VALUE), -6);
        x.enter(1, 9);
        x.terms(0, 4);
        Due.is("barred by the day", x.take(1, 1), -3);
        x.force(-1);
        Due.is("without a law", x.take(1, 1), 9);
    }

    /** CLERK 0 with HAND 9,900, another one with nothing; CELLS 10 to 24 have 999 each. */
    private static LedgerHounds nearlyFull() {
        LedgerHounds x = Due.under("takes 99 - day; bars if cell = 24");
        x.clerk(1);
        x.clerk(1);
        for (int c = 0; c < 25; c++) {
            x.enter(c, 999);
        }
        String text = "take done/10 by 0 times 20";
        Due.is("orders", Due.orders(x, text + (";" + text).repeat(4)), 100);
        Due.is("hand", x.of(0, 1), 9900);
        return x;
    }

    /** A HAND of 9,999 at most: what is taken is not less by that. */
    private static void fullHand() {
        LedgerHounds x = nearlyFull();
        x.terms(0, 1);
        Due.is("98", x.take(10, 0), 98);
        Due.is("hand", x.of(0, 1), 9998);
        Due.is("98 more, one finds room", x.take(10, 0), 98);
        Due.is("status", x.status(), 0);
        Due.is("hand", x.of(0, 1), 9999);
        Due.is("entry", x.at(10, 0), 803);
        Due.is("98 more, none finds room", x.take(10, 0), 98);
        Due.is("hand", x.of(0, 1), 9999);
        Due.is("entry", x.at(10, 0), 705);
        x.terms(0, 0);
        Due.is("orders, too", Due.orders(x, "take 11 by 0 times 2; pass if latest = 99 and hand 0 = 9*[1000+111]"), 3);
        Due.is("entry", x.at(11, 0), 801);
        Due.is("another hand", x.take(11, 1) * 100 + x.of(1, 1), 9898);
        Due.is("as much as there is", x.enter(12, 7) + x.take(12, 0), 1006);
        Due.is("nothing there", x.take(12, 0), -3);
        Due.is("barred", x.take(24, 0), -3);
        Due.is("a wrong cell", x.take(25, 0), -1);
        x.terms(0, 99);
        Due.is("takes nothing", x.take(10, 0), -3);
        Due.is("hand", x.of(0, 1), 9999);
    }

    private static void fullHandUndone() {
        LedgerHounds x = nearlyFull();
        Due.is("to the full", x.take(10, 0), 99);
        Due.is("hand", x.of(0, 1), 9999);
        Due.is("undo", x.undo(), 0);
        Due.is("as they were", x.at(10, 0) * 10000 + x.of(0, 1), 9999900);
        x.terms(0, 9);
        Due.is("90, 90 and 90", x.take(10, 0) + x.take(10, 0) + x.take(11, 0), 270);
        Due.is("orders", Due.orders(x, "take 11 by 0; shift 11 to 10 of 5; take 11 by 1"), 3);
        Due.is("orders that can't be", Due.orders(x, "take 11 by 0 times 3; take 24 by 0"), -3);
        Due.is("as they were", x.at(11, 0) * 10000 + x.of(0, 1), 7249999);
        int[][] behind = {{0, 824, 814, 9999}, {1, 819, 819, 9999}, {0, 819, 909, 9999}, {0, 819, 999, 9999}, {0, 909, 999, 9990},
            {0, 999, 999, 9900}};
        for (int[] b : behind) {
            Due.is("undo", x.undo(), b[0]);
            Due.is("at(10, 0)", x.at(10, 0), b[1]);
            Due.is("at(11, 0)", x.at(11, 0), b[2]);
            Due.is("hand", x.of(0, 1), b[3]);
        }
        Due.is("hand", x.of(1, 1), 0);
        Due.is("undo", x.undo(), -3);
    }

    /** Promise 20. */
    private static void shift() {
        LedgerHounds x = new LedgerHounds();
        x.enter(3, 999);
        x.enter(4, 1);
        Due.is("shift", x.shift(3, 24, 999), 0);
        Due.is("at(24, 0)", x.at(24, 0), 999);
        Due.is("999 there at most", x.shift(4, 24, 1), -3);
        Due.is("not as much", x.shift(4, 3, 2), -3);
        Due.is("shift", x.shift(24, 3, 1), 998);
        Due.is("shift", x.shift(4, 24, 1), 0);
        int[][] wrong = {{25, 0, 1}, {-1, 0, 1}, {0, 25, 1}, {0, -1, 1}, {24, 24, 1}, {24, 3, 0}, {24, 3, -1}, {24, 3, 1000},
            {24, 3, Integer.MIN_VALUE}, {Integer.MAX_VALUE, 3, 1}};
        for (int[] w : wrong) {
            Due.is("shift wrongly", x.shift(w[0], w[1], w[2]), -1);
        }
        Due.is("count(7)", x.count(7), wrong.length);
        Due.is("count(9)", x.count(9), 2);
        Due.is("can be undone", x.count(5), 3);
    }

    /** Promise 21. */
    private static void fence() {
        LedgerHounds x = new LedgerHounds();
        Due.is("fence", x.fence(0), 1);
        Due.is("fence", x.fence(24), 1);
        Due.is("count(1)", x.count(1), 2);
        Due.is("fence", x.fence(0), 0);
        Due.is("at(0, 1)", x.at(0, 1), 0);
        Due.is("at(24, 1)", x.at(24, 1), 1);
        Due.is("wrong", x.fence(25) + x.fence(-1) + x.fence(Integer.MIN_VALUE), -3);
        Due.is("status", x.status(), -1);
        Due.is("can be undone", x.count(5), 3);
    }

    /** Promise 22. */
    private static void pass() {
        LedgerHounds x = new LedgerHounds();
        Due.is("pass", x.pass(), 1);
        Due.is("pass", x.pass(), 2);
        x.terms(0, 998);
        Due.is("pass", x.pass(), 999);
        Due.is("no more", x.pass(), -3);
        Due.is("status", x.status(), -3);
        Due.is("day", x.count(13), 999);
        Due.is("undo", x.undo(), 3);
        Due.is("day", x.count(13), 998);
    }

    /** Promise 23. */
    private static void undo() {
        LedgerHounds x = new LedgerHounds();
        x.clerk(2);
        x.enter(0, 25);
        x.take(0, 0);
        x.take(0, 0);
        x.take(0, 0);
        x.fence(3);
        x.fence(3);
        x.take(3, 0);
        Due.is("can be undone", x.count(5), 5);
        Due.is("undo", x.undo(), 2);
        Due.is("fence", x.at(3, 1), 1);
        Due.is("undo", x.undo(), 2);
        Due.is("undo", x.undo(), 0);
        Due.is("what was taken of the rest", x.at(0, 0) * 100 + x.of(0, 1), 520);
        Due.is("undo", x.undo(), 0);
        Due.is("undo", x.undo(), 0);
        Due.is("all is back", x.at(0, 0) * 100 + x.of(0, 1), 2500);
        Due.is("undo", x.undo(), -3);
        Due.is("status", x.status(), -3);
        for (int i = 0; i < 17; i++) {
            x.fence(i);
        }
        Due.is("16 are kept", x.count(5), 16);
        for (int i = 16; i > 0; i--) {
            Due.is("undo", x.undo(), 2);
            Due.is("the latest first", x.at(i, 1), 0);
        }
        Due.is("undo", x.undo(), -3);
        Due.is("the oldest is not kept", x.at(0, 1), 1);
    }

    private static void notUndone() {
        for (int way = 0; way < 12; way++) {
            LedgerHounds x = new LedgerHounds();
            x.clerk(1);
            x.pass();
            boolean gone = way < 4;
            switch (way) {
                case 0: x.enter(0, 0); break;
                case 1: x.clerk(1); break;
                case 2: x.terms(2, 0); break;
                case 3: Due.tape(x, "abc"); x.row(); break;
                case 4: x.enter(25, 0); break;
                case 5: x.clerk(10); break;
                case 6: x.terms(0, 1000); break;
                case 7: x.row(); break;
                case 8: x.told(0, 0, 5); x.seen(0, 0, 0); x.booked(0, 1, 1); x.forget(); break;
                case 9: Due.law(x, "leads 1"); x.force(0); x.weeks(1, 1); break;
                case 10: x.image(0); break;
                default: Due.orders(x, "pass if 1=2"); x.back(1); break;
            }
            Due.is("what can be undone behind way " + way, x.count(5), gone ? 0 : 1);
            Due.is("undo behind way " + way, x.undo(), gone ? -3 : 3);
        }
    }
}
