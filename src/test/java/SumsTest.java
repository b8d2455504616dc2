import java.util.Random;

/** The fewest entries to change, and entries turned about: promises 24 and 25. */
public final class SumsTest {
    private SumsTest() {
    }

    public static void main(String[] args) {
        fewest();
        fewestByChanges();
        turned();
        Due.end("SumsTest");
    }

    /** Entries are 0 but for a field of 500 below each sum, so sums can be off either way. */
    private static int fewestOf(int... offs) {
        LedgerHounds x = new LedgerHounds();
        for (int i = 0; i < 5; i++) {
            x.enter(6 * i, 500);
            x.told(0, i, 500 + offs[i]);
            x.told(1, i, 500 + offs[5 + i]);
        }
        return x.fewest();
    }

    /** Promise 24. */
    private static void fewest() {
        Due.is("nothing off", fewestOf(0, 0, 0, 0, 0, 0, 0, 0, 0, 0), 0);
        Due.is("one entry", fewestOf(0, 3, 0, 0, 0, 0, 0, 0, 3, 0), 1);
        Due.is("rows alone", fewestOf(0, 3, 0, 0, 0, 0, 0, 0, 0, 0), -1);
        Due.is("not by as much", fewestOf(0, 3, 0, 0, 0, 0, 0, 0, 4, 0), -1);
        Due.is("two rows against one another", fewestOf(3, -3, 0, 0, 0, 0, 0, 0, 0, 0), 2);
        Due.is("columns against one another", fewestOf(0, 0, 0, 0, 0, 5, -2, -3, 0, 0), 3);
        Due.is("both, one heap", fewestOf(3, -3, 0, 0, 0, 0, 7, -7, 0, 0), 3);
        Due.is("five of one", fewestOf(1, 1, 1, 1, 1, 1, 1, 1, 1, 1), 5);
        Due.is("one against four", fewestOf(10, 0, 0, 0, 0, 1, 2, 3, 4, 0), 4);
        Due.is("two heaps", fewestOf(5, 7, 0, 0, 0, 2, 3, 3, 4, 0), 4);
        Due.is("one heap of all", fewestOf(5, 7, 0, 0, 0, 1, 1, 1, 9, 0), 5);
        Due.is("nine", fewestOf(1, 20, 300, 700, 1000, 5, 51, 403, 607, 955), 9);
        Due.is("heaps below 0", fewestOf(-4, 9, 0, 0, 0, -4, 4, 5, 0, 0), 3);
        Due.is("rows that are even, and one of each", fewestOf(3, -3, 5, 0, 0, 5, 0, 0, 0, 0), 3);
    }

    /** As many entries are changed as drawn; FEWEST is never more. */
    private static void fewestByChanges() {
        Random random = new Random(7);
        for (int t = 0; t < 60; t++) {
            LedgerHounds x = new LedgerHounds();
            int[] rows = new int[5];
            int[] columns = new int[5];
            int changes = random.nextInt(6);
            for (int c = 0; c < 25; c++) {
                int n = 100 + random.nextInt(9);
                x.enter(c, n);
                rows[c / 5] += n;
                columns[c % 5] += n;
            }
            for (int i = 0; i < changes; i++) {
                int c = random.nextInt(25);
                int n = 1 + random.nextInt(50);
                x.enter(c, x.at(c, 0) + n);
            }
            for (int i = 0; i < 5; i++) {
                x.told(0, i, rows[i]);
                x.told(1, i, columns[i]);
            }
            Due.holds("fewest is not more than " + changes, x.fewest() >= 0 && x.fewest() <= changes);
        }
    }

    /** Promise 25. */
    private static void turned() {
        LedgerHounds x = new LedgerHounds();
        Due.is("all alike", x.turned(-1), 300);
        Due.is("the first", x.turned(0), 1);
        Due.is("the 24th", x.turned(23), 24);
        Due.is("the 25th", x.turned(24), 102);
        Due.is("the last", x.turned(299), 2324);
        Due.is("one more", x.turned(300), -1);
        Due.is("-2", x.turned(-2), -1);
        Due.is("far", x.turned(Integer.MIN_VALUE) + x.turned(Integer.MAX_VALUE), -2);
        x.enter(0, 40);
        x.enter(8, 70);
        x.told(0, 0, 70);
        x.told(0, 1, 40);
        x.told(1, 0, 70);
        x.told(1, 3, 40);
        Due.is("turned(-1)", x.turned(-1), 1);
        Due.is("turned(0)", x.turned(0), 8);
        Due.is("turned(1)", x.turned(1), -1);
        Due.is("nothing was changed by asking", x.at(0, 0) * 1000 + x.at(8, 0), 40070);
        x.told(0, 4, 1);
        Due.is("one sum off", x.turned(-1), 0);
        Due.is("turned(0)", x.turned(0), -1);
        LedgerHounds y = new LedgerHounds();
        y.enter(11, 4);
        y.told(0, 2, 4);
        y.told(1, 3, 4);
        Due.is("in one row", y.turned(-1), 1);
        Due.is("turned(0)", y.turned(0), 1113);
        y.told(1, 3, 0);
        y.told(1, 1, 4);
        Due.is("even as it is: the 24 others among one another", y.turned(-1), 276);
        Due.is("rising", y.turned(275), 2324);
    }
}
