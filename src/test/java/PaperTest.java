import java.math.BigInteger;

/** Chances, and weeks on paper: promises 37 to 39. */
public final class PaperTest {
    private static final long ALL = 1000000000000L;

    private PaperTest() {
    }

    public static void main(String[] args) {
        fewWrong();
        fewExact();
        fewCut();
        weeks();
        weeksByLaw();
        lastDay();
        fullHand();
        Due.end("PaperTest");
    }

    /** Promise 37. */
    private static void fewWrong() {
        LedgerHounds x = new LedgerHounds();
        int[][] wrong = {{0, 1}, {21, 1}, {-1, 1}, {1, -1}, {1, 100}, {Integer.MIN_VALUE, 5}, {5, Integer.MAX_VALUE}};
        for (int[] w : wrong) {
            Due.is("few wrongly", x.few(w[0], w[1]), -1);
        }
        Due.is("not REFUSED", x.count(7), 0);
        Due.is("k 20, n 0", x.few(20, 0), ALL);
        x.terms(1, 0);
        Due.is("no slips", x.few(1, 99), ALL);
        x.terms(1, 10);
        Due.is("slips alone", x.few(5, 4), ALL);
        Due.is("slips alone", x.few(5, 5), 0);
        Due.is("slips alone", x.few(20, 99), 0);
    }

    /** To 12 DAYS no part has anything to cut: the chance is exact in every reading. */
    private static void fewExact() {
        for (int slip = 0; slip <= 10; slip++) {
            LedgerHounds x = new LedgerHounds();
            x.terms(1, slip);
            for (int n = 0; n <= 12; n++) {
                BigInteger sum = BigInteger.ZERO;
                BigInteger ways = BigInteger.ONE;
                for (int k = 1; k <= 20; k++) {
                    int slips = k - 1;
                    if (slips <= n) {
                        sum = sum.add(ways.multiply(BigInteger.valueOf(slip).pow(slips))
                                .multiply(BigInteger.valueOf(10 - slip).pow(n - slips)).multiply(BigInteger.TEN.pow(12 - n)));
                        ways = ways.multiply(BigInteger.valueOf(n - slips)).divide(BigInteger.valueOf(k));
                    }
                    Due.is("few(" + k + ", " + n + ") at " + slip, x.few(k, n), sum.longValueExact());
                }
            }
        }
    }

    /** DAY by DAY what slips and what does not is cut, each by itself; NOTES.md tells the other readings. */
    private static void fewCut() {
        LedgerHounds x = new LedgerHounds();
        long part = ALL;
        for (int n = 0; n < 100; n++) {
            Due.is("few(1, " + n + ")", x.few(1, n), part);
            part = part * 9 / 10;
        }
        for (int slip = 0; slip <= 10; slip++) {
            long[] parts = new long[101];
            parts[0] = ALL;
            for (int n = 0; n < 100; n++) {
                x = new LedgerHounds();
                x.terms(1, slip);
                long sum = 0;
                for (int k = 1; k <= 20; k++) {
                    sum += parts[k - 1];
                    Due.is("few(" + k + ", " + n + ") at " + slip, x.few(k, n), sum);
                }
                long[] then = new long[101];
                for (int j = 0; j < 100; j++) {
                    then[j] += parts[j] * (10 - slip) / 10;
                    then[j + 1] += parts[j] * slip / 10;
                }
                parts = then;
            }
        }
    }

    /** Promises 38 and 39. */
    private static void weeks() {
        LedgerHounds x = new LedgerHounds();
        Due.is("no clerks", x.weeks(0, 1), -3);
        Due.is("status", x.status(), -3);
        Due.is("a wrong seed first", x.weeks(-1, 1), -1);
        Due.is("drawn ahead of any", x.drawn(0, 0) + x.drawn(0, 1), -2);
        x.clerk(5);
        x.clerk(6);
        int[][] wrong = {{-1, 1}, {1000001, 1}, {0, 0}, {0, 61}, {0, -1}, {Integer.MIN_VALUE, 1}, {0, Integer.MAX_VALUE}};
        for (int[] w : wrong) {
            Due.is("weeks wrongly", x.weeks(w[0], w[1]), -1);
        }
        Due.is("drawn ahead of any", x.drawn(0, 0), -1);
        // By hand from seed 0: 12345 is clerk 1, 628841 is cell 16; then 621889 is clerk 1, 953857 is cell 7.
        x.enter(16, 4);
        x.enter(15, 50);
        Due.is("a day", x.weeks(0, 1), 4);
        Due.is("drawn", x.drawn(16, 0) * 100 + x.drawn(1, 1), 4);
        x.enter(7, 70);
        Due.is("two days", x.weeks(0, 2), 14);
        Due.is("drawn", x.drawn(7, 0), 60);
        Due.is("drawn", x.drawn(1, 1), 14);
        Due.is("on paper alone", x.at(16, 0) * 1000 + x.at(7, 0) * 10 + x.of(0, 1) + x.of(1, 1) + x.count(13), 4700);
        Due.is("wrong draws", x.drawn(25, 0) + x.drawn(-1, 0) + x.drawn(2, 1) + x.drawn(-1, 1) + x.drawn(0, 2) + x.drawn(0, -1), -6);
        x.clerk(1);
        x.enter(16, 999);
        Due.is("as it was then", x.drawn(2, 1), -1);
        Due.is("as it was then", x.drawn(16, 0), 0);
        x.weeks(-5, 1);
        Due.is("a REFUSED one is not the latest", x.drawn(16, 0), 0);
        Due.is("what was taken is what is missing", x.weeks(1000000, 60), missing(x));
    }

    private static int missing(LedgerHounds x) {
        x.weeks(1000000, 60);
        int sum = 0;
        for (int c = 0; c < 25; c++) {
            sum += x.at(c, 0) - x.drawn(c, 0);
        }
        return sum;
    }

    /** The law sees the DAY and the ENTRIES on the paper. */
    private static void weeksByLaw() {
        LedgerHounds x = Due.under("takes day + 1; bars if day = 2; takes 0 if entry < 100");
        x.clerk(0);
        for (int c = 0; c < 25; c++) {
            x.enter(c, 500);
        }
        Due.is("1", x.weeks(3, 1), 1);
        Due.is("1 + 2", x.weeks(3, 2), 3);
        Due.is("barred at 2", x.weeks(3, 3), 3);
        Due.is("and 4", x.weeks(3, 4), 7);
        x.terms(0, 10);
        Due.is("11 + 12", x.weeks(3, 2), 23);
        Due.is("the hand on paper", x.drawn(0, 1), 23);
        for (int c = 0; c < 25; c++) {
            x.enter(c, 99);
        }
        Due.is("too little there", x.weeks(3, 60), 0);
    }

    private static void lastDay() {
        LedgerHounds x = new LedgerHounds();
        x.clerk(0);
        for (int c = 0; c < 25; c++) {
            x.enter(c, 999);
        }
        x.terms(0, 997);
        Due.is("two days are left", x.weeks(8, 60), 20);
        Due.is("two days", x.weeks(8, 2), 20);
        x.terms(0, 999);
        Due.is("none is left", x.weeks(8, 60), 0);
        Due.is("drawn", x.drawn(0, 0), 999);
        x.terms(0, 0);
        Due.is("sixty", x.weeks(8, 60), 600);
    }

    /** What is taken on paper is not less by a HAND of 9,999 at most. */
    private static void fullHand() {
        LedgerHounds x = Due.under("takes 99");
        x.clerk(0);
        for (int c = 0; c < 25; c++) {
            x.enter(c, 999);
        }
        String text = "take done/10 by 0 times 20";
        Due.is("orders", Due.orders(x, text + (";" + text).repeat(4)), 100);
        for (int c = 0; c < 25; c++) {
            x.enter(c, 500);
        }
        Due.is("to the full", x.weeks(8, 1) * 10000 + x.drawn(0, 1), 999999);
        Due.is("beyond it", x.weeks(8, 3), 297);
        Due.is("the hand on paper", x.drawn(0, 1), 9999);
        int left = 0;
        for (int c = 0; c < 25; c++) {
            left += x.drawn(c, 0);
        }
        Due.is("the entries on paper", left, 25 * 500 - 297);
        Due.is("the hand itself", x.of(0, 1), 9900);
    }
}
