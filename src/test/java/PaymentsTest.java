/** Payments booked: promises 33 to 36. */
public final class PaymentsTest {
    private PaymentsTest() {
    }

    public static void main(String[] args) {
        booked();
        through();
        settled();
        forget();
        Due.end("PaymentsTest");
    }

    private static LedgerHounds with(int... threes) {
        LedgerHounds x = new LedgerHounds();
        for (int i = 0; i < threes.length; i += 3) {
            Due.is("booked", x.booked(threes[i], threes[i + 1], threes[i + 2]), i / 3 + 1);
        }
        return x;
    }

    /** Promise 33. */
    private static void booked() {
        LedgerHounds x = new LedgerHounds();
        int[][] wrong = {{0, 0, 1}, {5, 0, 1}, {-1, 0, 1}, {0, 5, 1}, {0, -1, 1}, {0, 1, 0}, {0, 1, 1000}, {0, 1, -5}};
        for (int[] w : wrong) {
            Due.is("booked wrongly", x.booked(w[0], w[1], w[2]), -1);
            Due.is("status", x.status(), -1);
        }
        for (int i = 1; i <= 10; i++) {
            Due.is("booked", x.booked(4, 3, 999), i);
        }
        Due.is("an eleventh", x.booked(0, 1, 1), -5);
        Due.is("a wrong eleventh", x.booked(1, 1, 1), -1);
        Due.is("count(3)", x.count(3), 10);
        Due.is("all of it", x.through(4, 3, 0), 9990);
        Due.is("the most that can be is cut, too", x.through(4, 3, 1), 16);
        Due.is("all of it", x.through(3, 4, 0), 0);
    }

    /** Promise 34. */
    private static void through() {
        LedgerHounds x = with(0, 1, 10, 0, 2, 5, 1, 3, 4, 2, 3, 9, 1, 2, 3, 3, 4, 11, 4, 0, 50);
        int[][] due = {{0, 4, 0, 11}, {0, 4, 1, 15}, {0, 3, 0, 12}, {0, 3, 1, 3}, {1, 3, 0, 7}, {1, 3, 1, 2}, {4, 1, 0, 10}, {4, 1, 1, 29},
            {3, 0, 0, 11}, {3, 0, 1, 8}, {0, 2, 0, 8}, {0, 2, 1, 27}, {0, 0, 0, -1}, {5, 0, 0, -1}, {0, 5, 0, -1}, {-1, 0, 1, -1},
            {0, -1, 0, -1}, {0, 1, 2, -1}, {0, 1, -1, -1}};
        for (int[] d : due) {
            Due.is("through(" + d[0] + ", " + d[1] + ", " + d[2] + ")", x.through(d[0], d[1], d[2]), d[3]);
        }
        x = with(0, 1, 5, 1, 2, 5);
        Due.is("the lowest of two cuts", x.through(0, 2, 1), 1);
        x = with(3, 1, 5, 1, 2, 5);
        Due.is("the lowest as bits", x.through(3, 2, 1), 8);
        x = with(0, 1, 5, 0, 1, 7);
        Due.is("twice along one way", x.through(0, 1, 0), 12);
        Due.is("nothing back", x.through(1, 0, 0), 0);
        Due.is("cut of nothing", x.through(1, 0, 1), 2);
    }

    /** Promise 35. */
    private static void settled() {
        Due.is("nothing", with().settled(), 0);
        Due.is("one", with(0, 1, 5).settled(), 1);
        Due.is("there and back", with(0, 1, 5, 1, 0, 5).settled(), 0);
        Due.is("around", with(0, 1, 5, 1, 2, 5, 2, 0, 5).settled(), 0);
        Due.is("two heaps", with(0, 1, 5, 2, 3, 7).settled(), 2);
        Due.is("one heap of four", with(0, 1, 5, 2, 3, 7, 0, 3, 1).settled(), 3);
        Due.is("one heap of five", with(0, 1, 1, 0, 2, 2, 0, 3, 4, 0, 4, 8).settled(), 4);
        Due.is("a heap of two, one of three", with(0, 1, 6, 0, 4, 4, 2, 4, 3, 3, 4, 4, 4, 1, 4).settled(), 3);
        Due.is("booked along, settled straight", with(0, 1, 5, 1, 2, 5, 2, 3, 5).settled(), 1);
    }

    /** Promise 36. */
    private static void forget() {
        LedgerHounds x = with(0, 1, 5, 1, 2, 5);
        x.seen(0, 0, 0);
        x.enter(99, 0);
        Due.is("forget", x.forget(), 3);
        Due.is("status stays", x.status(), -1);
        Due.is("forget", x.forget(), 0);
        Due.is("counts", x.count(2) + x.count(3), 0);
        Due.is("through", x.through(0, 1, 0), 0);
        Due.is("booked anew", x.booked(2, 1, 4), 1);
        Due.is("through", x.through(0, 1, 0), 0);
        Due.is("through", x.through(2, 1, 0), 4);
    }
}
