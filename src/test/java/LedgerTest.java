/** Entries, sums, clerks, terms: promises 2 to 9. */
public final class LedgerTest {
    private static final int[] FAR = {Integer.MIN_VALUE, -2, -1, Integer.MAX_VALUE};

    private LedgerTest() {
    }

    public static void main(String[] args) {
        enter();
        at();
        told();
        off();
        clerk();
        of();
        asks();
        terms();
        Due.end("LedgerTest");
    }

    /** Promise 2. */
    private static void enter() {
        LedgerHounds x = new LedgerHounds();
        Due.is("enter(0, 999)", x.enter(0, 999), 0);
        Due.is("enter(0, 0)", x.enter(0, 0), 999);
        Due.is("enter(24, 5)", x.enter(24, 5), 0);
        Due.is("at(24, 0)", x.at(24, 0), 5);
        Due.is("enter(24, 1000)", x.enter(24, 1000), -1);
        Due.is("enter(24, -1)", x.enter(24, -1), -1);
        Due.is("enter(25, 5)", x.enter(25, 5), -1);
        for (int far : FAR) {
            Due.is("enter(far, 5)", x.enter(far, 5), -1);
            Due.is("enter(3, far)", x.enter(3, far), -1);
        }
        Due.is("at(24, 0)", x.at(24, 0), 5);
        Due.is("refused by -1", x.count(7), 3 + 2 * FAR.length);
        Due.is("status", x.status(), -1);
        x.enter(24, 5);
        Due.is("status", x.status(), 0);
    }

    /** Promise 3. */
    private static void at() {
        LedgerHounds x = Due.under("leads 9 - cell; leads 0 - 3 if cell = 24; bites if entry > 4; bites if cell = 0");
        x.enter(7, 5);
        x.fence(7);
        int[][] due = {{7, 0, 5}, {7, 1, 1}, {7, 2, 2}, {7, 3, 1}, {8, 3, 0}, {0, 3, 1}, {0, 2, 4}, {5, 2, 4}, {6, 2, 3},
            {8, 2, 1}, {9, 2, 0}, {20, 2, 0}, {24, 2, 0}, {8, 1, 0}, {8, 4, -1}, {8, -1, -1}, {25, 0, -1}, {-1, 0, -1}};
        for (int[] d : due) {
            Due.is("at(" + d[0] + ", " + d[1] + ")", x.at(d[0], d[1]), d[2]);
        }
        for (int far : FAR) {
            Due.is("at(far, 0)", x.at(far, 0), -1);
            Due.is("at(0, far)", x.at(0, far), -1);
        }
        Due.is("NONE is not REFUSED", x.count(7), 0);
        Due.is("status", x.status(), 0);
    }

    /** Promise 4. */
    private static void told() {
        LedgerHounds x = new LedgerHounds();
        for (int i = 0; i < 10; i++) {
            Due.is("told", x.told(i / 5, i % 5, 9999 - i), 0);
        }
        for (int i = 0; i < 10; i++) {
            Due.is("told again", x.told(i / 5, i % 5, 0), 9999 - i);
        }
        int[][] wrong = {{2, 0, 0}, {-1, 0, 0}, {0, 5, 0}, {0, -1, 0}, {1, 0, 10000}, {1, 0, -1}};
        for (int[] w : wrong) {
            Due.is("told wrongly", x.told(w[0], w[1], w[2]), -1);
            Due.is("status", x.status(), -1);
        }
        x.pass();
        x.told(0, 0, 5);
        Due.is("told() lets be what can be undone", x.count(5), 1);
    }

    /** Promise 5. */
    private static void off() {
        LedgerHounds x = new LedgerHounds();
        x.enter(7, 30);
        x.enter(9, 4);
        x.enter(22, 1);
        x.told(0, 1, 9);
        x.told(1, 2, 50);
        int[][] due = {{0, 0, 0}, {0, 1, -25}, {0, 4, -1}, {1, 2, 19}, {1, 4, -4}, {1, 0, 0}, {2, 0, -100000},
            {-1, 0, -100000}, {0, 5, -100000}, {1, -1, -100000}};
        for (int[] d : due) {
            Due.is("off(" + d[0] + ", " + d[1] + ")", x.off(d[0], d[1]), d[2]);
        }
        for (int c = 0; c < 25; c++) {
            x.enter(c, 999);
        }
        Due.is("off at most below", x.off(1, 0), -4995);
    }

    /** Promise 6. */
    private static void clerk() {
        LedgerHounds x = new LedgerHounds();
        Due.is("clerk(-1)", x.clerk(-1), -1);
        Due.is("clerk(10)", x.clerk(10), -1);
        for (int i = 0; i < 5; i++) {
            Due.is("clerk", x.clerk(9 - i), i);
        }
        Due.is("a sixth", x.clerk(3), -5);
        Due.is("status", x.status(), -5);
        Due.is("a wrong sixth", x.clerk(10), -1);
        Due.is("count(0)", x.count(0), 5);
        Due.is("count(10)", x.count(10), 1);
    }

    /** Promise 7. */
    private static void of() {
        LedgerHounds x = new LedgerHounds();
        x.clerk(9);
        x.clerk(0);
        x.enter(0, 15);
        x.take(0, 1);
        x.take(0, 1);
        int[][] due = {{0, 0, 9}, {0, 1, 0}, {1, 0, 0}, {1, 1, 15}, {2, 0, -1}, {-1, 0, -1}, {0, 2, -1}, {0, -1, -1}};
        for (int[] d : due) {
            Due.is("of(" + d[0] + ", " + d[1] + ")", x.of(d[0], d[1]), d[2]);
        }
    }

    /** Promise 8. */
    private static void asks() {
        LedgerHounds x = Due.under("takes keen * 30 - clerk; takes 5 if cell = 3; takes 1 / 0 if cell = 4; bars if clerk = 1 and row = 1; bars if keen < 0");
        x.clerk(2);
        x.clerk(9);
        x.clerk(0);
        int[][] due = {{0, 0, 0, 60}, {1, 0, 0, 99}, {2, 0, 0, 0}, {0, 3, 0, 5}, {0, 4, 0, 60}, {1, 5, 1, 1}, {1, 4, 1, 0},
            {0, 5, 1, 0}, {3, 0, 0, -1}, {-1, 0, 0, -1}, {0, 25, 0, -1}, {0, -1, 1, -1}, {0, 0, 2, -1}, {0, 0, -1, -1}};
        for (int[] d : due) {
            Due.is("asks(" + d[0] + ", " + d[1] + ", " + d[2] + ")", x.asks(d[0], d[1], d[2]), d[3]);
        }
        x.force(-1);
        Due.is("asks without a law", x.asks(0, 0, 0), 10);
        Due.is("asks without a law", x.asks(1, 5, 1), 0);
    }

    /** Promise 9. */
    private static void terms() {
        LedgerHounds x = new LedgerHounds();
        Due.is("DAY", x.terms(0, 999), 0);
        Due.is("SLIP", x.terms(1, 10), 1);
        Due.is("MOOD", x.terms(2, 9), 0);
        Due.is("DAY", x.terms(0, 0), 999);
        Due.is("SLIP", x.terms(1, 0), 10);
        int[][] wrong = {{0, 1000}, {0, -1}, {1, 11}, {1, -1}, {2, 10}, {2, -1}, {3, 0}, {-1, 0}};
        for (int[] w : wrong) {
            Due.is("terms wrongly", x.terms(w[0], w[1]), -1);
        }
        Due.is("count(13)", x.count(13), 0);
        Due.is("count(14)", x.count(14), 0);
        Due.is("count(15)", x.count(15), 9);
    }
}
