/** Every number that a call is given: the last that can be and the first that can't, on either side of its range. */
public final class RangesTest {
    private RangesTest() {
    }

    public static void main(String[] args) {
        ledger();
        clerks();
        terms();
        tapeAndLaws();
        deeds();
        hounds();
        payments();
        paper();
        imagesAndCounts();
        Due.end("RangesTest");
    }

    private static LedgerHounds fresh() {
        return new LedgerHounds();
    }

    /** Each CELL has this ENTRY. */
    private static LedgerHounds entered(int entry) {
        LedgerHounds x = fresh();
        for (int c = 0; c < 25; c++) {
            x.enter(c, entry);
        }
        return x;
    }

    private static LedgerHounds withClerks(int n) {
        LedgerHounds x = entered(50);
        for (int i = 0; i < n; i++) {
            x.clerk(i);
        }
        return x;
    }

    private static LedgerHounds withLaws(int n) {
        LedgerHounds x = fresh();
        for (int i = 0; i < n; i++) {
            Due.law(x, "leads " + i);
        }
        return x;
    }

    /** "CELLS 0 .. 24", "an ENTRY 0 .. 999", "TOLD of each ROW, each COLUMN a sum 0 .. 9,999". */
    private static void ledger() {
        Due.range("enter: the CELL", 0, 24, -1, n -> fresh().enter(n, 1));
        Due.range("enter: the ENTRY", 0, 999, -1, n -> fresh().enter(1, n));
        Due.range("at: the CELL", 0, 24, -1, n -> fresh().at(n, 0));
        Due.range("at: what", 0, 3, -1, n -> fresh().at(0, n));
        Due.range("told: kind", 0, 1, -1, n -> fresh().told(n, 0, 1));
        Due.range("told: a ROW", 0, 4, -1, n -> fresh().told(0, n, 1));
        Due.range("told: a COLUMN", 0, 4, -1, n -> fresh().told(1, n, 1));
        Due.range("told: the sum of a ROW", 0, 9999, -1, n -> fresh().told(0, 0, n));
        Due.range("told: the sum of a COLUMN", 0, 9999, -1, n -> fresh().told(1, 4, n));
        Due.range("off: kind", 0, 1, -100000, n -> fresh().off(n, 0));
        Due.range("off: a ROW", 0, 4, -100000, n -> fresh().off(0, n));
        Due.range("off: a COLUMN", 0, 4, -100000, n -> fresh().off(1, n));
    }

    /** "CLERKS 0 .. 4 (5 at most): KEEN 0 .. 9". */
    private static void clerks() {
        Due.range("clerk: KEEN", 0, 9, -1, n -> fresh().clerk(n));
        for (int clerks = 1; clerks <= 5; clerks++) {
            int there = clerks;
            Due.range("of: one of " + there, 0, there - 1, -1, n -> withClerks(there).of(n, 0));
            Due.range("asks: one of " + there, 0, there - 1, -1, n -> withClerks(there).asks(n, 0, 0));
            Due.range("take: one of " + there, 0, there - 1, -2, n -> withClerks(there).take(0, n));
        }
        for (int n = -1; n < 6; n++) {
            Due.is("of: none is there", fresh().of(n, 0), -1);
            Due.is("asks: none is there", fresh().asks(n, 0, 0), -1);
            Due.is("take: none is there", entered(5).take(0, n), -2);
        }
        Due.range("of: what", 0, 1, -1, n -> withClerks(1).of(0, n));
        Due.range("asks: the CELL", 0, 24, -1, n -> withClerks(1).asks(0, n, 0));
        Due.range("asks: what", 0, 1, -1, n -> withClerks(1).asks(0, 0, n));
    }

    /** "TERMS: 0 DAY 0 .. 999 (0 at first), 1 SLIP 0 .. 10 (1), 2 MOOD 0 .. 9 (0)." */
    private static void terms() {
        Due.range("terms: what", 0, 2, -1, n -> fresh().terms(n, 5));
        Due.range("terms: DAY", 0, 999, -1, n -> fresh().terms(0, n));
        Due.range("terms: SLIP", 0, 10, -1, n -> fresh().terms(1, n));
        Due.range("terms: MOOD", 0, 9, -1, n -> fresh().terms(2, n));
    }

    private static void tapeAndLaws() {
        Due.range("end: of an empty TAPE", 0, 0, -1, n -> fresh().end(n));
        Due.range("end: of 20 bytes", 0, 20, -1, n -> {
            LedgerHounds x = fresh();
            x.feed(0, 0, 0, 0, 0);
            return x.end(n);
        });
        Due.range("end: of 400 bytes", 0, 400, -1, n -> {
            LedgerHounds x = fresh();
            for (int i = 0; i < 20; i++) {
                x.feed(0, 0, 0, 0, 0);
            }
            return x.end(n);
        });
        for (int laws = 0; laws <= 6; laws++) {
            int there = laws;
            Due.range("force: of " + there + " LAWS", -1, there - 1, -2, n -> withLaws(there).force(n));
        }
    }

    private static void deeds() {
        Due.range("take: the CELL", 0, 24, -1, n -> withClerks(1).take(n, 0));
        Due.range("shift: from", 0, 24, -1, n -> entered(5).shift(n, 12, 1));
        Due.range("shift: to", 0, 24, -1, n -> entered(5).shift(12, n, 1));
        Due.range("shift: how much", 1, 999, -1, n -> {
            LedgerHounds x = fresh();
            x.enter(3, 999);
            return x.shift(3, 4, n);
        });
        Due.range("fence: the CELL", 0, 24, -1, n -> fresh().fence(n));
    }

    private static void hounds() {
        Due.range("turned: of 300", -1, 299, -1, n -> fresh().turned(n));
        Due.range("hound: the CELL", 0, 24, -1, n -> fresh().hound(n, 1));
        Due.range("hound: STEPS", 0, 99, -1, n -> fresh().hound(1, n));
        Due.range("ring: the CELL", 0, 24, -1, n -> fresh().ring(n, 0));
        Due.range("ring: what", 0, 1, -1, n -> fresh().ring(0, n));
        Due.range("sources: the CELL", 0, 24, -1, n -> fresh().sources(n));
        Due.range("casts: what", 0, 1, -1, n -> fresh().casts(n));
        Due.range("seen: the CELL", 0, 24, -1, n -> fresh().seen(n, 0, 0));
        Due.range("seen: STEPS", 0, 99, -1, n -> fresh().seen(0, n, 0));
        Due.range("seen: where", 0, 25, -1, n -> fresh().seen(0, 0, n));
        Due.range("next: STEPS", 0, 99, -1, n -> withLaws(2).next(n, 0));
        Due.range("next: what", 0, 1, -1, n -> withLaws(2).next(1, n));
    }

    /** "BOOKED, 10 at most: from an ACCOUNT 0 .. 4 to another one 1 .. 999." */
    private static void payments() {
        Due.range("booked: from", 0, 4, -1, n -> fresh().booked(n, 2, 1));
        Due.range("booked: to", 0, 4, -1, n -> fresh().booked(2, n, 1));
        Due.range("booked: how much", 1, 999, -1, n -> fresh().booked(0, 1, n));
        Due.range("through: from", 0, 4, -1, n -> fresh().through(n, 2, 0));
        Due.range("through: to", 0, 4, -1, n -> fresh().through(2, n, 0));
        Due.range("through: what", 0, 1, -1, n -> fresh().through(0, 1, n));
        for (int account = 0; account < 5; account++) {
            Due.is("booked: one ACCOUNT", fresh().booked(account, account, 1), -1);
            Due.is("through: one ACCOUNT", fresh().through(account, account, 0), -1);
            Due.is("the CUT: one ACCOUNT", fresh().through(account, account, 1), -1);
        }
    }

    private static void paper() {
        Due.range("few: k", 1, 20, -1, n -> fresh().few(n, 9));
        Due.range("few: n", 0, 99, -1, n -> fresh().few(5, n));
        Due.range("weeks: the SEED", 0, 1000000, -1, n -> withClerks(1).weeks(n, 3));
        Due.range("weeks: n", 1, 60, -1, n -> withClerks(1).weeks(3, n));
        Due.range("drawn: a CELL", 0, 24, -1, n -> drawnOn(5, n, 0));
        Due.range("drawn: what", 0, 1, -1, n -> drawnOn(5, 0, n));
        for (int clerks = 1; clerks <= 5; clerks++) {
            int there = clerks;
            Due.range("drawn: one of " + there, 0, there - 1, -1, n -> drawnOn(there, n, 1));
        }
    }

    private static int drawnOn(int clerks, int k, int what) {
        LedgerHounds x = withClerks(clerks);
        x.weeks(3, 60);
        return x.drawn(k, what);
    }

    private static void imagesAndCounts() {
        Due.range("image", 0, 1, -1, n -> fresh().image(n));
        Due.range("back", 0, 1, -1, n -> {
            LedgerHounds x = fresh();
            x.image(0);
            x.image(1);
            return x.back(n);
        });
        Due.range("count", 0, 15, -1, n -> fresh().count(n));
    }
}
