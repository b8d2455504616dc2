/** Takings, shiftings, fences, days, and all undone: promises 19 to 23. */
public final class DeedsTest {
    private DeedsTest() {
    }

    public static void main(String[] args) {
        take();
        fullHand();
        shift();
        fence();
        pass();
        undo();
        notUndone();
        Due.end("DeedsTest");
    }

    /** Promise 19. */
    private static void take() {
        LedgerHounds x = Due.under("takes keen * 10; bars if row = 1; bars if clerk = 1 and day > 3");
        Due.is("no such clerk yet", x.take(0, 0), -2);
        Due.is("a wrong cell first", x.take(25, 0), -1);
        x.clerk(4);
        x.clerk(1);
        x.clerk(0);
        x.enter(0, 100);
        x.enter(5, 100);
        Due.is("take", x.take(0, 0), 40);
        Due.is("take", x.take(0, 1), 10);
        Due.is("entry", x.at(0, 0), 50);
        Due.is("hands", x.of(0, 1) * 100 + x.of(1, 1), 4010);
        Due.is("takes nothing", x.take(0, 2), -3);
        Due.is("barred", x.take(5, 0), -3);
        Due.is("take", x.take(0, 0), 40);
        Due.is("as much as there is", x.take(0, 0), 10);
        Due.is("nothing there", x.take(0, 0), -3);
        Due.is("status", x.status(), -3);
        Due.is("wrong cells", x.take(-1, 0) + x.take(25, 9), -2);
        Due.is("no such clerks", x.take(0, 3) + x.take(0, -1) + x.take(0, Integer.MIN_VALUE), -6);
        x.enter(1, 9);
        x.terms(0, 4);
        Due.is("barred by the day", x.take(1, 1), -3);
        x.force(-1);
        Due.is("without a law", x.take(1, 1), 9);
    }

    /** A HAND of 9,999 at most: what would be more can't be. */
    private static void fullHand() {
        LedgerHounds x = Due.under("takes 99 - day");
        x.clerk(1);
        for (int c = 0; c < 11; c++) {
            x.enter(c, 999);
        }
        for (int i = 0; i < 5; i++) {
            String text = "take " + 2 * i + " by 0 times 10; take " + (2 * i + 1) + " by 0 times 10";
            Due.is("orders", Due.orders(x, text), 20);
        }
        Due.is("hand", x.of(0, 1), 9900);
        Due.is("to the full", x.take(10, 0), 99);
        Due.is("hand", x.of(0, 1), 9999);
        Due.is("beyond it", x.take(10, 0), -3);
        Due.is("entry", x.at(10, 0), 900);
        Due.is("undo", x.undo(), 0);
        x.terms(0, 1);
        Due.is("98", x.take(10, 0), 98);
        Due.is("98 more can't be", x.take(10, 0), -3);
        Due.is("orders neither", Due.orders(x, "take 10 by 0"), -3);
        x.terms(0, 98);
        Due.is("1 more can", x.take(10, 0), 1);
        Due.is("and no more", x.take(10, 0), -3);
        Due.is("hand", x.of(0, 1), 9999);
    }

    /** Promise 20. */
    private static void shift() {
        LedgerHounds x = new LedgerHounds();
        x.enter(3, 999);
        x.enter(4, 1);
        Due.is("shift", x.shift(3, 24, 999), 0);
        Due.is("at(24, 0)", x.at(24, 0), 999);
        Due.is("999 there at most", x.shift(4, 24, 1), -3);
        Due.is("not as much", x.shift(4, 3, 2), -3);
        Due.is("shift", x.shift(24, 3, 1), 998);
        Due.is("shift", x.shift(4, 24, 1), 0);
        int[][] wrong = {{25, 0, 1}, {-1, 0, 1}, {0, 25, 1}, {0, -1, 1}, {24, 24, 1}, {24, 3, 0}, {24, 3, -1}, {24, 3, 1000},
            {24, 3, Integer.MIN_VALUE}, {Integer.MAX_VALUE, 3, 1}};
        for (int[] w : wrong) {
            Due.is("shift wrongly", x.shift(w[0], w[1], w[2]), -1);
        }
        Due.is("count(7)", x.count(7), wrong.length);
        Due.is("count(9)", x.count(9), 2);
        Due.is("can be undone", x.count(5), 3);
    }

    /** Promise 21. */
    private static void fence() {
        LedgerHounds x = new LedgerHounds();
        Due.is("fence", x.fence(0), 1);
        Due.is("fence", x.fence(24), 1);
        Due.is("count(1)", x.count(1), 2);
        Due.is("fence", x.fence(0), 0);
        Due.is("at(0, 1)", x.at(0, 1), 0);
        Due.is("at(24, 1)", x.at(24, 1), 1);
        Due.is("wrong", x.fence(25) + x.fence(-1) + x.fence(Integer.MIN_VALUE), -3);
        Due.is("status", x.status(), -1);
        Due.is("can be undone", x.count(5), 3);
    }

    /** Promise 22. */
    private static void pass() {
        LedgerHounds x = new LedgerHounds();
        Due.is("pass", x.pass(), 1);
        Due.is("pass", x.pass(), 2);
        x.terms(0, 998);
        Due.is("pass", x.pass(), 999);
        Due.is("no more", x.pass(), -3);
        Due.is("status", x.status(), -3);
        Due.is("day", x.count(13), 999);
        Due.is("undo", x.undo(), 3);
        Due.is("day", x.count(13), 998);
    }

    /** Promise 23. */
    private static void undo() {
        LedgerHounds x = new LedgerHounds();
        x.clerk(2);
        x.enter(0, 25);
        x.take(0, 0);
        x.take(0, 0);
        x.take(0, 0);
        x.fence(3);
        x.fence(3);
        x.take(3, 0);
        Due.is("can be undone", x.count(5), 5);
        Due.is("undo", x.undo(), 2);
        Due.is("fence", x.at(3, 1), 1);
        Due.is("undo", x.undo(), 2);
        Due.is("undo", x.undo(), 0);
        Due.is("what was taken of the rest", x.at(0, 0) * 100 + x.of(0, 1), 520);
        Due.is("undo", x.undo(), 0);
        Due.is("undo", x.undo(), 0);
        Due.is("all is back", x.at(0, 0) * 100 + x.of(0, 1), 2500);
        Due.is("undo", x.undo(), -3);
        Due.is("status", x.status(), -3);
        for (int i = 0; i < 17; i++) {
            x.fence(i);
        }
        Due.is("16 are kept", x.count(5), 16);
        for (int i = 16; i > 0; i--) {
            Due.is("undo", x.undo(), 2);
            Due.is("the latest first", x.at(i, 1), 0);
        }
        Due.is("undo", x.undo(), -3);
        Due.is("the oldest is not kept", x.at(0, 1), 1);
    }

    private static void notUndone() {
        for (int way = 0; way < 12; way++) {
            LedgerHounds x = new LedgerHounds();
            x.clerk(1);
            x.pass();
            boolean gone = way < 4;
            switch (way) {
                case 0: x.enter(0, 0); break;
                case 1: x.clerk(1); break;
                case 2: x.terms(2, 0); break;
                case 3: Due.tape(x, "abc"); x.row(); break;
                case 4: x.enter(25, 0); break;
                case 5: x.clerk(10); break;
                case 6: x.terms(0, 1000); break;
                case 7: x.row(); break;
                case 8: x.told(0, 0, 5); x.seen(0, 0, 0); x.booked(0, 1, 1); x.forget(); break;
                case 9: Due.law(x, "leads 1"); x.force(0); x.weeks(1, 1); break;
                case 10: x.image(0); break;
                default: Due.orders(x, "pass if 1=2"); x.back(1); break;
            }
            Due.is("what can be undone behind way " + way, x.count(5), gone ? 0 : 1);
            Due.is("undo behind way " + way, x.undo(), gone ? -3 : 3);
        }
    }
}
