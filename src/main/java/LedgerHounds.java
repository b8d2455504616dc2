import java.util.Arrays;

/** A ledger, its clerks, and the hounds that are set on it; ../shared/DOC.md says what each call promises. */
public final class LedgerHounds {
    public static final int NONE = -1;
    public static final int NOTHING = -100000;
    public static final int OUT = 25;

    private static final int LINES = 5;
    private static final int CELLS = 25;
    private static final int MOST_CLERKS = 5;
    private static final int MOST_LAWS = 6;
    private static final int MOST_SIGHTS = 8;
    private static final int MOST_PAYMENTS = 10;
    private static final int MOST_PAYMENT = 999;
    private static final int MOST_BYTES = 400;
    private static final int MOST_CLAUSES = 12;
    private static final int MOST_PARTS = 50;
    private static final int MOST_BRACKETS = 8;
    private static final int MOST_DEEDS = 16;
    private static final int MOST_STEPS = 99;
    private static final int MOST_ENTRY = 999;
    private static final int MOST_SUM = 9999;
    private static final int MOST_HAND = 9999;
    private static final int MOST_TAKEN = 99;
    private static final int MOST_FEW = 20;
    private static final int IMAGES = 2;

    private static final int DAY = 0;
    private static final int SLIP = 1;
    private static final int MOOD = 2;
    private static final int TERMS = 3;
    private static final int LAST_DAY = 999;
    private static final int[] MOST_OF_TERM = {LAST_DAY, 10, 9};

    private static final int WRONG = -1;
    private static final int NO_SUCH = -2;
    private static final int CANT = -3;
    private static final int NO_ROOM = -5;
    private static final int UNREADABLE = -6;

    /** The kinds of deeds: as undo() tells them, and in the order of Reader.ORDER_KINDS. */
    private static final int TAKE = 0;
    private static final int SHIFT = 1;
    private static final int FENCE = 2;
    private static final int PASS = 3;

    /** The kinds of a LAW's CLAUSES, in the order of Reader.LAW_KINDS. */
    private static final int LEADS = 0;
    private static final int TAKES = 1;
    private static final int BITES = 2;
    private static final int BARS = 3;

    private static final int MOST_LED = 4;
    private static final int LED_WITHOUT = 2;
    private static final int TAKEN_WITHOUT = 10;

    /** What a SUM, a TEST is that has no worth: far outside of all that a SUM can come to. */
    private static final int BROKEN = -2000000000;

    /** The worths of the words of ORDERS stand in one row: day, done, latest, then these. */
    private static final int ENTRY_WORTHS = 3;
    private static final int OFF_WORTHS = ENTRY_WORTHS + CELLS;
    private static final int ACROSS_WORTHS = OFF_WORTHS + LINES;
    private static final int HAND_WORTHS = ACROSS_WORTHS + LINES;
    private static final int ORDER_WORTHS = HAND_WORTHS + MOST_CLERKS;

    private static final int MOST_SEED = 1000000;
    private static final int MOST_WEEK_DAYS = 60;
    private static final long ALL_PARTS = 1000000000000L;

    private final Book book = new Book();
    private final Book[] images = new Book[IMAGES];
    private final Book spare = new Book();
    private final Book paper = new Book();
    private final Deeds deeds = new Deeds();
    private final Deeds spareDeeds = new Deeds();
    private final int[] tape = new int[MOST_BYTES];
    private final Reader reader = new Reader();
    private final Machine machine = new Machine();
    private final Rules rules = new Rules();
    private final Kennel kennel = new Kennel();
    private final Heaps heaps = new Heaps();
    private final int[] worths = new int[ORDER_WORTHS];
    private final long[] chances = new long[MOST_FEW];
    private final int[] refusals = new int[5];
    private int tapeLength;
    private int smudged;
    private int stoppedAt = NONE;
    private int latestRefusal;

    public LedgerHounds() {
        // An empty ledger is what the fields' own first values are.
    }

    public int enter(int cell, int entry) {
        if (!isCell(cell) || !isWithin(entry, 0, MOST_ENTRY)) {
            return refused(WRONG);
        }
        int was = book.entries[cell];
        book.entries[cell] = entry;
        deeds.clear();
        return granted(was);
    }

    public int at(int cell, int what) {
        if (!isCell(cell)) {
            return NONE;
        }
        switch (what) {
            case 0:
                return book.entries[cell];
            case 1:
                return book.fences[cell];
            case 2:
                return nearest(rules.lastTold(book, book.lawInForce(), LEADS, cell, NONE), MOST_LED, LED_WITHOUT);
            case 3:
                return rules.lastTold(book, book.lawInForce(), BITES, cell, NONE) == BROKEN ? 0 : 1;
            default:
                return NONE;
        }
    }

    public int told(int kind, int i, int sum) {
        if (!isLine(kind, i) || !isWithin(sum, 0, MOST_SUM)) {
            return refused(WRONG);
        }
        int line = kind * LINES + i;
        int was = book.sums[line];
        book.sums[line] = sum;
        return granted(was);
    }

    public int off(int kind, int i) {
        return isLine(kind, i) ? book.gap(kind, i) : NOTHING;
    }

    public int clerk(int keen) {
        if (!isWithin(keen, 0, 9)) {
            return refused(WRONG);
        }
        if (book.clerks >= MOST_CLERKS) {
            return refused(NO_ROOM);
        }
        int number = book.clerks;
        book.keens[number] = keen;
        book.hands[number] = 0;
        book.clerks = number + 1;
        deeds.clear();
        return granted(number);
    }

    public int of(int clerk, int what) {
        if (!book.hasClerk(clerk)) {
            return NONE;
        }
        switch (what) {
            case 0:
                return book.keens[clerk];
            case 1:
                return book.handOf(clerk);
            default:
                return NONE;
        }
    }

    public int asks(int clerk, int cell, int what) {
        if (!book.hasClerk(clerk) || !isCell(cell)) {
            return NONE;
        }
        switch (what) {
            case 0:
                return nearest(rules.lastTold(book, book.lawInForce(), TAKES, cell, clerk), MOST_TAKEN, TAKEN_WITHOUT);
            case 1:
                return rules.lastTold(book, book.lawInForce(), BARS, cell, clerk) == BROKEN ? 0 : 1;
            default:
                return NONE;
        }
    }

    public int terms(int what, int value) {
        if (!isWithin(what, 0, TERMS - 1) || !isWithin(value, 0, MOST_OF_TERM[what])) {
            return refused(WRONG);
        }
        int was = book.terms[what];
        book.terms[what] = value;
        deeds.clear();
        return granted(was);
    }

    public int feed(int a, int b, int c, int d, int e) {
        if (tapeLength + 20 > MOST_BYTES) {
            return NONE;
        }
        putBytes(a);
        putBytes(b);
        putBytes(c);
        putBytes(d);
        putBytes(e);
        return tapeLength;
    }

    public int end(int n) {
        if (!isWithin(n, 0, tapeLength)) {
            return NONE;
        }
        tapeLength = n;
        return n;
    }

    public int row() {
        if (tapeLength == 0) {
            return refused(UNREADABLE);
        }
        int entered = 0;
        smudged = 0;
        for (int i = 0; i < tapeLength; i += 3) {
            if (i + 2 < tapeLength && isCell(tape[i]) && tape[i + 1] <= 9 && tape[i + 2] <= 99) {
                book.entries[tape[i]] = 100 * tape[i + 1] + tape[i + 2];
                entered++;
            } else {
                smudged++;
            }
        }
        tapeLength = 0;
        deeds.clear();
        return granted(entered);
    }

    public int smudges() {
        return smudged;
    }

    public int law() {
        if (book.lawCount >= MOST_LAWS) {
            tapeLength = 0;
            return refused(NO_ROOM);
        }
        Text text = reader.readText(tape, tapeLength, true);
        tapeLength = 0;
        if (text == null) {
            return refused(UNREADABLE);
        }
        int number = book.lawCount;
        book.laws[number] = text;
        book.lawCount = number + 1;
        return granted(number);
    }

    public int orders() {
        stoppedAt = NONE;
        Text text = reader.readText(tape, tapeLength, false);
        tapeLength = 0;
        if (text == null) {
            return refused(UNREADABLE);
        }
        spare.copyFrom(book);
        spareDeeds.copyFrom(deeds);
        int done = runOrders(text);
        if (done >= 0) {
            return granted(done);
        }
        book.copyFrom(spare);
        deeds.copyFrom(spareDeeds);
        return refused(CANT);
    }

    public int fault() {
        return reader.fault;
    }

    public int stopped() {
        return stoppedAt;
    }

    public int force(int law) {
        if (!isWithin(law, NONE, book.lawCount - 1)) {
            return refused(NO_SUCH);
        }
        int was = book.inForce;
        book.inForce = law;
        return granted(was);
    }

    public int take(int cell, int clerk) {
        return judged(carryOut(TAKE, cell, clerk, 0));
    }

    public int shift(int from, int to, int n) {
        return judged(carryOut(SHIFT, from, to, n));
    }

    public int fence(int cell) {
        return judged(carryOut(FENCE, cell, 0, 0));
    }

    public int pass() {
        return judged(carryOut(PASS, 0, 0, 0));
    }

    public int undo() {
        return judged(deeds.takeBack(book));
    }

    public int fewest() {
        int rows = 0;
        int lines = 0;
        for (int kind = 0; kind < 2; kind++) {
            for (int i = 0; i < LINES; i++) {
                int gap = book.gap(kind, i);
                if (gap != 0) {
                    heaps.put(lines, kind == 0 ? gap : -gap);
                    lines++;
                }
            }
            if (kind == 0) {
                rows = lines;
            }
        }
        int rowBits = (1 << rows) - 1;
        int most = heaps.mostEven(lines, rowBits, ((1 << lines) - 1) & ~rowBits);
        return most == NONE ? NONE : lines - most;
    }

    public int turned(int i) {
        if (i < NONE) {
            return NONE;
        }
        int found = 0;
        for (int low = 0; low < CELLS; low++) {
            for (int high = low + 1; high < CELLS; high++) {
                if (book.isEvenTurned(low, high)) {
                    if (found == i) {
                        return 100 * low + high;
                    }
                    found++;
                }
            }
        }
        return i == NONE ? found : NONE;
    }

    public int hound(int cell, int n) {
        if (!isCell(cell) || !isWithin(n, 0, MOST_STEPS)) {
            return NONE;
        }
        kennel.learn(book, book.lawInForce());
        return kennel.placeAfter(cell, n);
    }

    public int ring(int cell, int what) {
        if (!isCell(cell) || !isWithin(what, 0, 1)) {
            return NONE;
        }
        kennel.learn(book, book.lawInForce());
        return kennel.ringOf(cell, what == 1);
    }

    public int sources(int cell) {
        if (!isCell(cell)) {
            return NONE;
        }
        kennel.learn(book, book.lawInForce());
        kennel.learnReach();
        return kennel.sourceBits(cell);
    }

    public int casts(int what) {
        if (!isWithin(what, 0, 1)) {
            return NONE;
        }
        kennel.learn(book, book.lawInForce());
        kennel.learnReach();
        int bits = kennel.castBits();
        return what == 0 ? Integer.bitCount(bits) : bits;
    }

    public int seen(int cell, int n, int where) {
        if (!isCell(cell) || !isWithin(n, 0, MOST_STEPS) || !isWithin(where, 0, OUT)) {
            return refused(WRONG);
        }
        if (book.sightCount >= MOST_SIGHTS) {
            return refused(NO_ROOM);
        }
        putThree(book.sights, book.sightCount, cell, n, where);
        book.sightCount++;
        return granted(book.sightCount);
    }

    public int fits() {
        return kennel.fitting(book);
    }

    public int next(int n, int what) {
        if (!isWithin(n, 0, MOST_STEPS) || !isWithin(what, 0, 1)) {
            return NONE;
        }
        int laws = kennel.fitting(book);
        if (laws == 0) {
            return NONE;
        }
        kennel.learnPlaces(book, laws, n);
        int best = 0;
        for (int cell = 1; cell < CELLS; cell++) {
            if (kennel.mostAlike(cell, laws) < kennel.mostAlike(best, laws)) {
                best = cell;
            }
        }
        return what == 0 ? best : kennel.mostAlike(best, laws);
    }

    public int booked(int from, int to, int n) {
        if (!isAccount(from) || !isAccount(to) || from == to || !isWithin(n, 1, MOST_PAYMENT)) {
            return refused(WRONG);
        }
        if (book.paymentCount >= MOST_PAYMENTS) {
            return refused(NO_ROOM);
        }
        putThree(book.payments, book.paymentCount, from, to, n);
        book.paymentCount++;
        return granted(book.paymentCount);
    }

    public int through(int from, int to, int what) {
        if (!isAccount(from) || !isAccount(to) || from == to || !isWithin(what, 0, 1)) {
            return NONE;
        }
        // The most that can go through is the least that is booked out of any such set.
        int least = MOST_PAYMENTS * MOST_PAYMENT + 1;
        int cut = 0;
        for (int set = 0; set < 1 << LINES; set++) {
            if ((set >> from & 1) == 1 && (set >> to & 1) == 0 && book.bookedOutOf(set) < least) {
                least = book.bookedOutOf(set);
                cut = set;
            }
        }
        return what == 0 ? least : cut;
    }

    public int settled() {
        int uneven = 0;
        for (int account = 0; account < LINES; account++) {
            int balance = book.balanceOf(account);
            if (balance != 0) {
                heaps.put(uneven, balance);
                uneven++;
            }
        }
        int all = (1 << uneven) - 1;
        return uneven - heaps.mostEven(uneven, all, all);
    }

    public int forget() {
        int were = book.sightCount + book.paymentCount;
        book.sightCount = 0;
        book.paymentCount = 0;
        return were;
    }

    public long few(int k, int n) {
        if (!isWithin(k, 1, MOST_FEW) || !isWithin(n, 0, 99)) {
            return NONE;
        }
        int slip = book.terms[SLIP];
        Arrays.fill(chances, 0L);
        chances[0] = ALL_PARTS;
        for (int day = 0; day < n; day++) {
            for (int slips = k - 1; slips >= 0; slips--) {
                long more = slips > 0 ? chances[slips - 1] * slip / 10 : 0L;
                chances[slips] = chances[slips] * (10 - slip) / 10 + more;
            }
        }
        long sum = 0;
        for (int slips = 0; slips < k; slips++) {
            sum += chances[slips];
        }
        return sum;
    }

    public int weeks(int seed, int n) {
        if (!isWithin(seed, 0, MOST_SEED) || !isWithin(n, 1, MOST_WEEK_DAYS)) {
            return refused(WRONG);
        }
        if (book.clerks == 0) {
            return refused(CANT);
        }
        paper.copyFrom(book);
        return granted(runWeeks(seed, n));
    }

    public int drawn(int k, int what) {
        // WEEKS need a CLERK: without one on the paper there were none yet.
        if (paper.clerks == 0) {
            return NONE;
        }
        if (what == 0 && isCell(k)) {
            return paper.entries[k];
        }
        return what == 1 ? paper.handOf(k) : NONE;
    }

    public int image(int k) {
        if (!isWithin(k, 0, IMAGES - 1)) {
            return refused(WRONG);
        }
        if (images[k] == null) {
            images[k] = new Book();
        }
        images[k].copyFrom(book);
        return granted(0);
    }

    public int back(int k) {
        if (!isWithin(k, 0, IMAGES - 1)) {
            return refused(WRONG);
        }
        if (images[k] == null) {
            return refused(NO_SUCH);
        }
        book.copyFrom(images[k]);
        deeds.clear();
        return granted(0);
    }

    public int count(int what) {
        if (isWithin(what, 7, 11)) {
            return refusals[what - 7];
        }
        if (isWithin(what, 13, 15)) {
            return book.terms[what - 13];
        }
        switch (what) {
            case 0:
                return book.clerks;
            case 1:
                return book.fenceCount();
            case 2:
                return book.sightCount;
            case 3:
                return book.paymentCount;
            case 4:
                return book.lawCount;
            case 5:
                return deeds.size;
            case 6:
                return tapeLength;
            case 12:
                return book.inForce;
            default:
                return NONE;
        }
    }

    public int status() {
        return latestRefusal;
    }

    private static boolean isWithin(int number, int least, int most) {
        return number >= least && number <= most;
    }

    private static boolean isCell(int cell) {
        return cell >= 0 && cell < CELLS;
    }

    private static boolean isLine(int kind, int i) {
        return kind >= 0 && kind <= 1 && i >= 0 && i < LINES;
    }

    private static boolean isAccount(int account) {
        return account >= 0 && account < LINES;
    }

    /** What a CLAUSE told, brought to 0 .. most; `without`, if no CLAUSE holds. */
    private static int nearest(int toldWorth, int most, int without) {
        return toldWorth == BROKEN ? without : Math.max(0, Math.min(most, toldWorth));
    }

    private static void putThree(int[] rows, int i, int a, int b, int c) {
        rows[3 * i] = a;
        rows[3 * i + 1] = b;
        rows[3 * i + 2] = c;
    }

    private int refused(int why) {
        // There is no -4, so the two below it stand one nearer in the row.
        refusals[why > -4 ? -why - 1 : -why - 2]++;
        latestRefusal = why;
        return why;
    }

    private int granted(int answer) {
        latestRefusal = 0;
        return answer;
    }

    /** For calls whose answers are never below 0 but when they are REFUSED. */
    private int judged(int answer) {
        return answer < 0 ? refused(answer) : granted(answer);
    }

    private void putBytes(int number) {
        for (int places = 24; places >= 0; places -= 8) {
            tape[tapeLength] = number >> places & 255;
            tapeLength++;
        }
    }

    /** A deed on the ledger, kept for undo(): its answer, or what it is REFUSED by. */
    private int carryOut(int kind, int a, int b, int n) {
        // A full HAND gets less than was taken, so undo() can't tell from that what it was.
        int hand = kind == TAKE ? book.handOf(b) : NONE;
        int answer;
        switch (kind) {
            case TAKE:
                answer = takeAway(book, a, b);
                break;
            case SHIFT:
                answer = book.moveEntry(a, b, n);
                break;
            case FENCE:
                answer = book.turnFence(a);
                break;
            default:
                answer = book.nextDay();
                break;
        }
        if (answer >= 0) {
            deeds.keep(kind, a, b, kind == TAKE ? answer : n, hand);
        }
        return answer;
    }

    private int takeAway(Book from, int cell, int clerk) {
        if (!isCell(cell)) {
            return WRONG;
        }
        if (!from.hasClerk(clerk)) {
            return NO_SUCH;
        }
        Text law = from.lawInForce();
        if (rules.lastTold(from, law, BARS, cell, clerk) != BROKEN) {
            return CANT;
        }
        int most = nearest(rules.lastTold(from, law, TAKES, cell, clerk), MOST_TAKEN, TAKEN_WITHOUT);
        int amount = Math.min(most, from.entries[cell]);
        if (amount < 1) {
            return CANT;
        }
        from.entries[cell] -= amount;
        from.hands[clerk] = Math.min(MOST_HAND, from.hands[clerk] + amount);
        return amount;
    }

    /** How many were run; CANT, with stoppedAt set, if one can't be. */
    private int runOrders(Text text) {
        int done = 0;
        int latestTake = NONE;
        for (int clause = 0; clause < text.count; clause++) {
            int kind = text.kindOf(clause);
            int times = text.timesOf(clause);
            for (int time = 0; time < times; time++) {
                fillOrderWorths(done, latestTake);
                if (machine.worthAt(text.code, text.testPlace(clause), worths, 1) != 1) {
                    continue;
                }
                // A BROKEN SUM is no CELL, no CLERK and no amount, so it is refused below.
                int a = machine.worthAt(text.code, text.sumPlace(clause, 0), worths, 0);
                int b = machine.worthAt(text.code, text.sumPlace(clause, 1), worths, 0);
                int n = machine.worthAt(text.code, text.sumPlace(clause, 2), worths, 0);
                int answer = carryOut(kind, a, b, n);
                if (answer < 0) {
                    stoppedAt = clause;
                    return CANT;
                }
                done++;
                latestTake = kind == TAKE ? answer : latestTake;
            }
        }
        return done;
    }

    private void fillOrderWorths(int done, int latestTake) {
        worths[0] = book.terms[DAY];
        worths[1] = done;
        worths[2] = latestTake;
        System.arraycopy(book.entries, 0, worths, ENTRY_WORTHS, CELLS);
        for (int i = 0; i < LINES; i++) {
            worths[OFF_WORTHS + i] = book.gap(0, i);
            worths[ACROSS_WORTHS + i] = book.gap(1, i);
        }
        for (int i = 0; i < MOST_CLERKS; i++) {
            worths[HAND_WORTHS + i] = book.handOf(i);
        }
    }

    private int runWeeks(int seed, int n) {
        int s = seed;
        int taken = 0;
        for (int day = 0; day < n && paper.terms[DAY] < LAST_DAY; day++) {
            s = drawAfter(s);
            int clerk = s % Math.max(1, paper.clerks);
            s = drawAfter(s);
            taken += Math.max(0, takeAway(paper, s % CELLS, clerk));
            paper.terms[DAY]++;
        }
        return taken;
    }

    private static int drawAfter(int s) {
        return (s * 1103 + 12345) % 1000003;
    }

    /** All that IMAGES keep. */
    private static final class Book {
        private final int[] entries = new int[CELLS];
        private final int[] fences = new int[CELLS];
        /** TOLD: of the ROWS, then of the COLUMNS. */
        private final int[] sums = new int[2 * LINES];
        private final int[] keens = new int[MOST_CLERKS];
        private final int[] hands = new int[MOST_CLERKS];
        private final int[] terms = {0, 1, 0};
        private final Text[] laws = new Text[MOST_LAWS];
        /** By threes: CELL, STEPS, where. */
        private final int[] sights = new int[3 * MOST_SIGHTS];
        /** By threes: from, to, how much. */
        private final int[] payments = new int[3 * MOST_PAYMENTS];
        private int clerks;
        private int lawCount;
        private int inForce = NONE;
        private int sightCount;
        private int paymentCount;

        void copyFrom(Book other) {
            System.arraycopy(other.entries, 0, entries, 0, CELLS);
            System.arraycopy(other.fences, 0, fences, 0, CELLS);
            System.arraycopy(other.sums, 0, sums, 0, 2 * LINES);
            System.arraycopy(other.keens, 0, keens, 0, MOST_CLERKS);
            System.arraycopy(other.hands, 0, hands, 0, MOST_CLERKS);
            System.arraycopy(other.terms, 0, terms, 0, TERMS);
            System.arraycopy(other.sights, 0, sights, 0, 3 * MOST_SIGHTS);
            System.arraycopy(other.payments, 0, payments, 0, 3 * MOST_PAYMENTS);
            for (int i = 0; i < MOST_LAWS; i++) {
                laws[i] = other.laws[i];
            }
            clerks = other.clerks;
            lawCount = other.lawCount;
            inForce = other.inForce;
            sightCount = other.sightCount;
            paymentCount = other.paymentCount;
        }

        boolean hasClerk(int clerk) {
            return clerk >= 0 && clerk < clerks;
        }

        /** HAND of a CLERK; NONE without such a one. */
        int handOf(int clerk) {
            return hasClerk(clerk) ? hands[clerk] : NONE;
        }

        Text lawInForce() {
            return inForce >= 0 && inForce < lawCount ? laws[inForce] : null;
        }

        /** By how much a ROW (kind 0), a COLUMN (1) is OFF. */
        int gap(int kind, int i) {
            int first = kind == 0 ? i * LINES : i;
            int apart = kind == 0 ? 1 : LINES;
            int sum = 0;
            for (int k = 0; k < LINES; k++) {
                sum += entries[first + k * apart];
            }
            return sums[kind * LINES + i] - sum;
        }

        /** Whether nothing is OFF with the ENTRIES of two CELLS put for one another. */
        boolean isEvenTurned(int low, int high) {
            turn(low, high);
            boolean even = true;
            for (int i = 0; i < LINES && even; i++) {
                even = gap(0, i) == 0 && gap(1, i) == 0;
            }
            turn(low, high);
            return even;
        }

        private void turn(int low, int high) {
            int kept = entries[low];
            entries[low] = entries[high];
            entries[high] = kept;
        }

        int moveEntry(int from, int to, int n) {
            if (!isCell(from) || !isCell(to) || from == to || !isWithin(n, 1, MOST_ENTRY)) {
                return WRONG;
            }
            if (entries[from] < n || entries[to] + n > MOST_ENTRY) {
                return CANT;
            }
            entries[from] -= n;
            entries[to] += n;
            return entries[from];
        }

        int turnFence(int cell) {
            if (!isCell(cell)) {
                return WRONG;
            }
            fences[cell] = 1 - fences[cell];
            return fences[cell];
        }

        int nextDay() {
            if (terms[DAY] >= LAST_DAY) {
                return CANT;
            }
            terms[DAY]++;
            return terms[DAY];
        }

        int fenceCount() {
            int sum = 0;
            for (int i = 0; i < CELLS; i++) {
                sum += fences[i];
            }
            return sum;
        }

        int bookedOutOf(int set) {
            int sum = 0;
            for (int i = 0; i < paymentCount; i++) {
                if ((set >> payments[3 * i] & 1) == 1 && (set >> payments[3 * i + 1] & 1) == 0) {
                    sum += payments[3 * i + 2];
                }
            }
            return sum;
        }

        int balanceOf(int account) {
            int sum = 0;
            for (int i = 0; i < paymentCount; i++) {
                if (payments[3 * i] == account) {
                    sum += payments[3 * i + 2];
                } else if (payments[3 * i + 1] == account) {
                    sum -= payments[3 * i + 2];
                }
            }
            return sum;
        }
    }

    /** The latest deeds, the oldest first: what can be undone. */
    private static final class Deeds {
        private static final int WIDTH = 5;
        /** Of each deed the kind, what it was asked with, and the HAND ahead of a taking. */
        private final int[] rows = new int[WIDTH * MOST_DEEDS];
        private int size;

        void clear() {
            size = 0;
        }

        void copyFrom(Deeds other) {
            System.arraycopy(other.rows, 0, rows, 0, WIDTH * MOST_DEEDS);
            size = other.size;
        }

        void keep(int kind, int a, int b, int n, int hand) {
            if (size == MOST_DEEDS) {
                System.arraycopy(rows, WIDTH, rows, 0, WIDTH * (MOST_DEEDS - 1));
                size--;
            }
            int first = WIDTH * size;
            rows[first] = kind;
            rows[first + 1] = a;
            rows[first + 2] = b;
            rows[first + 3] = n;
            rows[first + 4] = hand;
            size++;
        }

        /** Undoes the latest deed in the book: its kind, or CANT. */
        int takeBack(Book book) {
            if (size == 0) {
                return CANT;
            }
            size--;
            int first = WIDTH * size;
            int a = rows[first + 1];
            int b = rows[first + 2];
            int n = rows[first + 3];
            switch (rows[first]) {
                case TAKE:
                    book.entries[a] += n;
                    book.hands[b] = rows[first + 4];
                    break;
                case SHIFT:
                    book.entries[a] += n;
                    book.entries[b] -= n;
                    break;
                case FENCE:
                    book.fences[a] = 1 - book.fences[a];
                    break;
                default:
                    book.terms[DAY]--;
                    break;
            }
            return rows[first];
        }
    }

    /** A TEXT that was read; it never changes, so that books may share it. */
    private static final class Text {
        private static final int WIDTH = 6;
        private static final int TEST_PLACE = 5;
        /** One number a step of the Machine: what to do, and above BITS with what. */
        private final int[] code;
        /** Of each CLAUSE the kind, TIMES, where three SUMS begin and where the TEST does (NONE without). */
        private final int[] clauses;
        private final int count;

        Text(int[] code, int[] clauses, int count) {
            this.code = code;
            this.clauses = clauses;
            this.count = count;
        }

        int kindOf(int clause) {
            return clauses[WIDTH * clause];
        }

        int timesOf(int clause) {
            return clauses[WIDTH * clause + 1];
        }

        int sumPlace(int clause, int which) {
            return clauses[WIDTH * clause + 2 + which];
        }

        int testPlace(int clause) {
            return clauses[WIDTH * clause + TEST_PLACE];
        }
    }

    /** Reads the TAPE as a TEXT, TOKEN by TOKEN, into the steps of a Machine. */
    private static final class Reader {
        private static final String LAW_KINDS = "leads takes bites bars";
        private static final String LAW_WORDS = "cell row column entry off across clerk keen day mood";
        private static final String ORDER_KINDS = "take shift fence pass";
        private static final String ORDER_WORDS = "day done latest entry off across hand";
        private static final int MOST_NUMBER = 1000;
        private static final int MOST_TIMES = 20;
        /** Each TOKEN makes one step at most, and each SUM and TEST one more at its end. */
        private static final int MOST_CODE = MOST_BYTES + 4 * MOST_CLAUSES;

        private static final int BLANK = 0;
        private static final int LETTER = 1;
        private static final int DIGIT = 2;
        private static final int OTHER = 3;

        private final int[] bytes = new int[MOST_BYTES];
        /** Of each byte whether it is a blank, a letter, a digit or another one. */
        private final int[] kinds = new int[MOST_BYTES];
        private final int[] code = new int[MOST_CODE];
        private final int[] clauses = new int[Text.WIDTH * MOST_CLAUSES];
        private boolean asLaw;
        private int length;
        /** The TOKEN in hand: its first byte, and the byte behind it; both are the length at the end. */
        private int start;
        private int stop;
        /** FAULT of the latest TEXT that was read. */
        private int fault = NONE;
        private int parts;
        private int size;
        private int count;

        /** The TEXT, or null with `fault` set. */
        Text readText(int[] tape, int tapeLength, boolean law) {
            for (int i = 0; i < tapeLength; i++) {
                bytes[i] = tape[i];
                kinds[i] = kindOfByte(tape[i]);
            }
            asLaw = law;
            length = tapeLength;
            stop = 0;
            fault = NONE;
            parts = 0;
            size = 0;
            count = 0;
            move();
            for (int i = 0; i < MOST_CLAUSES; i++) {
                if (!(asLaw ? readLawClause() : readOrderClause())) {
                    return null;
                }
                if (start == length) {
                    return new Text(Arrays.copyOf(code, size), Arrays.copyOf(clauses, Text.WIDTH * count), count);
                }
                if (!readSign(";")) {
                    return null;
                }
            }
            fails();
            return null;
        }

        private boolean readLawClause() {
            int kind = wordIn(LAW_KINDS);
            if (kind == NONE) {
                return fails();
            }
            openClause(kind);
            if ((kind == LEADS || kind == TAKES) && !readPiece(0)) {
                return false;
            }
            return readCondition();
        }

        private boolean readOrderClause() {
            int kind = wordIn(ORDER_KINDS);
            if (kind == NONE) {
                return fails();
            }
            openClause(kind);
            if (kind != PASS && !readPiece(0)) {
                return false;
            }
            if (kind == TAKE && !(readSign("by") && readPiece(1))) {
                return false;
            }
            if (kind == SHIFT && !(readSign("to") && readPiece(1) && readSign("of") && readPiece(2))) {
                return false;
            }
            return readTimes() && readCondition();
        }

        private void openClause(int kind) {
            int first = Text.WIDTH * count;
            for (int i = 0; i < Text.WIDTH; i++) {
                clauses[first + i] = NONE;
            }
            clauses[first] = kind;
            clauses[first + 1] = 1;
            count++;
            move();
        }

        /** A SUM of the CLAUSE in hand. */
        private boolean readPiece(int which) {
            clauses[Text.WIDTH * (count - 1) + 2 + which] = size;
            boolean read = readSum(0);
            put(Machine.END, 0);
            return read;
        }

        private boolean readTimes() {
            if (wordIn("times") == NONE) {
                return true;
            }
            move();
            int times = numberTo(MOST_TIMES);
            if (times < 1) {
                return fails();
            }
            clauses[Text.WIDTH * (count - 1) + 1] = times;
            move();
            return true;
        }

        private boolean readCondition() {
            if (wordIn("if") == NONE) {
                return true;
            }
            move();
            clauses[Text.WIDTH * (count - 1) + Text.TEST_PLACE] = size;
            boolean read = readTest(0);
            put(Machine.END, 0);
            return read;
        }

        private boolean readTest(int depth) {
            boolean read = readBoth(depth);
            for (int i = 0; i < length && read && wordIn("or") != NONE; i++) {
                move();
                int jump = put(Machine.OR, 0);
                read = readBoth(depth);
                land(jump);
            }
            return read;
        }

        private boolean readBoth(int depth) {
            boolean read = readPlain(depth);
            for (int i = 0; i < length && read && wordIn("and") != NONE; i++) {
                move();
                int jump = put(Machine.AND, 0);
                read = readPlain(depth);
                land(jump);
            }
            return read;
        }

        /** The row of "not" is gone through in a loop: it may be far longer than calls may go deep. */
        private boolean readPlain(int depth) {
            int nots = 0;
            while (nots < length && wordIn("not") != NONE) {
                move();
                nots++;
            }
            if (wordIn("(") != NONE) {
                if (depth >= MOST_BRACKETS) {
                    return fails();
                }
                move();
                if (!readTest(depth + 1) || !readSign(")")) {
                    return false;
                }
            } else {
                if (!readSum(depth)) {
                    return false;
                }
                int which = wordIn("< > =");
                if (which == NONE) {
                    return fails();
                }
                move();
                if (!readSum(depth)) {
                    return false;
                }
                put(Machine.LESS + which, 0);
            }
            if (nots % 2 == 1) {
                put(Machine.NOT, 0);
            }
            return true;
        }

        private boolean readSum(int depth) {
            boolean read = readTerm(depth);
            for (int i = 0; i < length && read; i++) {
                int which = wordIn("+ -");
                if (which == NONE) {
                    return true;
                }
                move();
                read = readTerm(depth);
                put(Machine.PLUS + which, 0);
            }
            return read;
        }

        private boolean readTerm(int depth) {
            boolean read = readPart(depth);
            for (int i = 0; i < length && read; i++) {
                int which = wordIn("* / %");
                if (which == NONE) {
                    return true;
                }
                move();
                read = readPart(depth);
                put(Machine.TIMES + which, 0);
            }
            return read;
        }

        private boolean readPart(int depth) {
            if (wordIn("[") != NONE) {
                if (depth >= MOST_BRACKETS) {
                    return fails();
                }
                move();
                return readSum(depth + 1) && readSign("]");
            }
            int number = numberTo(MOST_NUMBER);
            int word = wordIn(asLaw ? LAW_WORDS : ORDER_WORDS);
            if ((number == NONE && word == NONE) || parts >= MOST_PARTS) {
                return fails();
            }
            parts++;
            move();
            if (number != NONE) {
                put(Machine.NUMBER, number);
                return true;
            }
            return readWord(word);
        }

        /** What stands behind a word of ORDERS: from the fourth word on, its own NUMBER. */
        private boolean readWord(int word) {
            if (asLaw || word < ENTRY_WORTHS) {
                put(Machine.WORD, word);
                return true;
            }
            boolean ofCell = word == ENTRY_WORTHS;
            int number = numberTo(ofCell ? CELLS - 1 : LINES - 1);
            if (number == NONE) {
                return fails();
            }
            int first = ofCell ? ENTRY_WORTHS : OFF_WORTHS + LINES * (word - ENTRY_WORTHS - 1);
            put(Machine.WORD, first + number);
            move();
            return true;
        }

        private boolean readSign(String sign) {
            if (wordIn(sign) == NONE) {
                return fails();
            }
            move();
            return true;
        }

        private boolean fails() {
            fault = start;
            return false;
        }

        private int put(int step, int with) {
            int place = size;
            if (place < MOST_CODE) {
                code[place] = step | with << Machine.BITS;
                size++;
            }
            return place;
        }

        /** The jump goes to the step that comes next. */
        private void land(int jump) {
            if (jump < size) {
                code[jump] |= size << Machine.BITS;
            }
        }

        private static int kindOfByte(int sign) {
            if (sign == ' ') {
                return BLANK;
            }
            if (sign >= 'a' && sign <= 'z') {
                return LETTER;
            }
            return sign >= '0' && sign <= '9' ? DIGIT : OTHER;
        }

        private void move() {
            int i = stop;
            while (i < length && kinds[i] == BLANK) {
                i++;
            }
            start = i;
            if (i < length) {
                i++;
            }
            while (i < length && kinds[i] == kinds[start] && kinds[i] != OTHER) {
                i++;
            }
            stop = i;
        }

        /** Which word of the list, in which single blanks part them, the TOKEN in hand is; NONE. */
        private int wordIn(String list) {
            int signs = stop - start;
            int which = 0;
            int alike = 0;
            for (int i = 0; i <= list.length(); i++) {
                if (i == list.length() || list.charAt(i) == ' ') {
                    if (alike == signs && signs > 0) {
                        return which;
                    }
                    which++;
                    alike = 0;
                } else if (alike != NONE && alike < signs && list.charAt(i) == bytes[start + alike]) {
                    alike++;
                } else {
                    alike = NONE;
                }
            }
            return NONE;
        }

        /** The NUMBER in hand; NONE, if it is none or greater than `most`. */
        private int numberTo(int most) {
            if (start >= length || kinds[start] != DIGIT) {
                return NONE;
            }
            int number = 0;
            for (int i = start; i < stop; i++) {
                number = Math.min(10 * number + bytes[i] - '0', MOST_NUMBER + 1);
            }
            return number <= most ? number : NONE;
        }
    }

    /** Finds what SUMS and TESTS come to: a TEST to 1 or 0. */
    private static final class Machine {
        private static final int BITS = 8;
        private static final int END = 0;
        private static final int NUMBER = 1;
        private static final int WORD = 2;
        private static final int PLUS = 3;
        private static final int MINUS = 4;
        private static final int TIMES = 5;
        private static final int OVER = 6;
        private static final int REST = 7;
        private static final int LESS = 8;
        private static final int MORE = 9;
        private static final int NOT = 11;
        private static final int AND = 12;
        private static final int OR = 13;
        private static final long MOST_WORTH = 1000000000L;
        private static final long BEYOND = MOST_WORTH + 1;
        /** Each bracket, and each of a comparison, a SUM, a TERM in it, leaves one number waiting. */
        private static final int MOST_WAITING = 4 * (MOST_BRACKETS + 2);

        private final int[] waiting = new int[MOST_WAITING];
        private int top;

        /** What the SUM, the TEST that begins at a place comes to, or BROKEN; `without`, if the place is NONE. */
        int worthAt(int[] code, int first, int[] worths, int without) {
            if (first == NONE) {
                return without;
            }
            top = 0;
            int goOnAt = first;
            for (int i = first; i < code.length; i++) {
                if (i < goOnAt) {
                    continue;
                }
                int step = code[i] & (1 << BITS) - 1;
                int with = code[i] >> BITS;
                if (step == END) {
                    return top > 0 ? waiting[top - 1] : BROKEN;
                } else if (step == NUMBER) {
                    push(with);
                } else if (step == WORD) {
                    push(with < worths.length ? worths[with] : 0);
                } else if (top == 0) {
                    return BROKEN;
                } else if (step == NOT) {
                    waiting[top - 1] = 1 - waiting[top - 1];
                } else if (step == AND || step == OR) {
                    // What stands behind can't matter any more: it is gone over.
                    if (waiting[top - 1] == (step == OR ? 1 : 0)) {
                        goOnAt = with;
                    } else {
                        top--;
                    }
                } else if (!combine(step)) {
                    return BROKEN;
                }
            }
            return BROKEN;
        }

        private void push(int number) {
            if (top < MOST_WAITING) {
                waiting[top] = number;
                top++;
            }
        }

        /** Puts one number for the latest two that wait; false, if that is BROKEN. */
        private boolean combine(int step) {
            if (top < 2) {
                return false;
            }
            long a = waiting[top - 2];
            long b = waiting[top - 1];
            long worth;
            switch (step) {
                case PLUS:
                    worth = a + b;
                    break;
                case MINUS:
                    worth = a - b;
                    break;
                case TIMES:
                    worth = a * b;
                    break;
                case OVER:
                    worth = b == 0 ? BEYOND : a / b;
                    break;
                case REST:
                    worth = b == 0 ? BEYOND : a % b;
                    break;
                case LESS:
                    worth = a < b ? 1 : 0;
                    break;
                case MORE:
                    worth = a > b ? 1 : 0;
                    break;
                default:
                    worth = a == b ? 1 : 0;
                    break;
            }
            if (worth > MOST_WORTH || worth < -MOST_WORTH) {
                return false;
            }
            top--;
            waiting[top - 1] = (int) worth;
            return true;
        }
    }

    /** What a LAW tells of a CELL, or of a CLERK and a CELL. */
    private static final class Rules {
        private final Machine machine = new Machine();
        /** The worths of the words, in the order of Reader.LAW_WORDS. */
        private final int[] worths = new int[10];

        /** What the last CLAUSE of the kind that HOLDS tells (0, if it has no SUM); BROKEN, if none HOLDS. */
        int lastTold(Book book, Text law, int kind, int cell, int clerk) {
            if (law == null) {
                return BROKEN;
            }
            fillWorths(book, cell, clerk);
            for (int i = law.count - 1; i >= 0; i--) {
                if (law.kindOf(i) == kind && machine.worthAt(law.code, law.testPlace(i), worths, 1) == 1) {
                    int worth = machine.worthAt(law.code, law.sumPlace(i, 0), worths, 0);
                    if (worth != BROKEN) {
                        return worth;
                    }
                }
            }
            return BROKEN;
        }

        private void fillWorths(Book book, int cell, int clerk) {
            worths[0] = cell;
            worths[1] = cell / LINES;
            worths[2] = cell % LINES;
            worths[3] = book.entries[cell];
            worths[4] = book.gap(0, cell / LINES);
            worths[5] = book.gap(1, cell % LINES);
            worths[6] = clerk;
            worths[7] = book.hasClerk(clerk) ? book.keens[clerk] : NONE;
            worths[8] = book.terms[DAY];
            worths[9] = book.terms[MOOD];
        }
    }

    /** Where hounds go by a LAW. */
    private static final class Kennel {
        private static final int PLACES = CELLS + 1;
        private final Rules rules = new Rules();
        /** Where a STEP leads from each CELL, and from OUT. */
        private final int[] steps = new int[PLACES];
        /** The CELLS that a hound comes to from each CELL, itself too, as bits. */
        private final int[] reach = new int[CELLS];
        private final int[] firstMet = new int[PLACES];
        /** By LAW and CELL: where the hound is behind the asked STEPS. */
        private final int[] places = new int[MOST_LAWS * CELLS];

        void learn(Book book, Text law) {
            for (int cell = 0; cell < CELLS; cell++) {
                steps[cell] = stepFrom(book, law, cell);
            }
            steps[OUT] = OUT;
        }

        private int stepFrom(Book book, Text law, int cell) {
            if (rules.lastTold(book, law, BITES, cell, NONE) != BROKEN) {
                return cell;
            }
            int row = cell / LINES;
            int column = cell % LINES;
            switch (nearest(rules.lastTold(book, law, LEADS, cell, NONE), MOST_LED, LED_WITHOUT)) {
                case 1:
                    row++;
                    break;
                case 2:
                    column++;
                    break;
                case 3:
                    row--;
                    break;
                case 4:
                    column--;
                    break;
                default:
                    return cell;
            }
            if (row < 0 || row >= LINES || column < 0 || column >= LINES) {
                return OUT;
            }
            int to = row * LINES + column;
            return book.fences[to] == 1 ? cell : to;
        }

        int placeAfter(int cell, int n) {
            int place = cell;
            for (int i = 0; i < n; i++) {
                place = steps[place];
            }
            return place;
        }

        /** The STEPS till the ring, or how many CELLS it has. */
        int ringOf(int cell, boolean inCells) {
            Arrays.fill(firstMet, NONE);
            int place = cell;
            int gone = 0;
            while (gone <= PLACES && firstMet[place] == NONE) {
                firstMet[place] = gone;
                place = steps[place];
                gone++;
            }
            if (!inCells) {
                return firstMet[place];
            }
            return place == OUT ? 0 : gone - firstMet[place];
        }

        void learnReach() {
            for (int cell = 0; cell < CELLS; cell++) {
                int place = cell;
                int bits = 0;
                for (int i = 0; i < CELLS && place != OUT; i++) {
                    bits |= 1 << place;
                    place = steps[place];
                }
                reach[cell] = bits;
            }
        }

        int sourceBits(int cell) {
            int bits = 0;
            for (int from = 0; from < CELLS; from++) {
                bits |= (reach[from] >> cell & 1) << from;
            }
            return bits;
        }

        /** A CELL is set at if it comes to all CELLS that come to it, and is the lowest of these. */
        int castBits() {
            int bits = 0;
            for (int cell = 0; cell < CELLS; cell++) {
                int from = sourceBits(cell);
                if ((from & ~reach[cell]) == 0 && (from & -from) == 1 << cell) {
                    bits |= 1 << cell;
                }
            }
            return bits;
        }

        int fitting(Book book) {
            int bits = 0;
            for (int law = 0; law < book.lawCount; law++) {
                learn(book, book.laws[law]);
                boolean fit = true;
                for (int i = 0; i < book.sightCount && fit; i++) {
                    fit = placeAfter(book.sights[3 * i], book.sights[3 * i + 1]) == book.sights[3 * i + 2];
                }
                if (fit) {
                    bits |= 1 << law;
                }
            }
            return bits;
        }

        void learnPlaces(Book book, int laws, int n) {
            for (int law = 0; law < book.lawCount; law++) {
                if ((laws >> law & 1) == 1) {
                    learn(book, book.laws[law]);
                    for (int cell = 0; cell < CELLS; cell++) {
                        places[law * CELLS + cell] = placeAfter(cell, n);
                    }
                }
            }
        }

        /** How many of the LAWS, at most, have the hound from this CELL at one place. */
        int mostAlike(int cell, int laws) {
            int most = 0;
            for (int law = 0; law < MOST_LAWS; law++) {
                int alike = 0;
                for (int other = 0; other < MOST_LAWS; other++) {
                    boolean both = (laws >> law & 1) == 1 && (laws >> other & 1) == 1;
                    if (both && places[law * CELLS + cell] == places[other * CELLS + cell]) {
                        alike++;
                    }
                }
                most = Math.max(most, alike);
            }
            return most;
        }
    }

    /** Parts numbers into heaps that come to 0. */
    private static final class Heaps {
        private static final int MOST = 2 * LINES;
        private final int[] numbers = new int[MOST];
        private final int[] sums = new int[1 << MOST];
        private final int[] most = new int[1 << MOST];

        void put(int i, int number) {
            numbers[i] = number;
        }

        /**
         * The most heaps with one of `first` and one of `second` (bits) in each, when the first `size` numbers are
         * parted into heaps that come to 0, NONE if they can't be.
         */
        int mostEven(int size, int first, int second) {
            for (int i = 0; i < size; i++) {
                for (int set = 0; set < 1 << i; set++) {
                    sums[set | 1 << i] = sums[set] + numbers[i];
                }
            }
            int all = (1 << size) - 1;
            if (sums[all] != 0) {
                return NONE;
            }
            for (int set = 1; set <= all; set++) {
                if (sums[set] == 0) {
                    most[set] = mostIn(set, first, second);
                }
            }
            return most[all];
        }

        /** Tries each heap for the lowest in the set; what a heap leaves comes to 0 as well. */
        private int mostIn(int set, int first, int second) {
            int low = set & -set;
            int others = set ^ low;
            int best = hasBoth(set, first, second);
            for (int rest = others; rest > 0; rest = rest - 1 & others) {
                if (sums[rest] == 0) {
                    best = Math.max(best, most[rest] + hasBoth(set ^ rest, first, second));
                }
            }
            return best;
        }

        private static int hasBoth(int heap, int first, int second) {
            return (heap & first) != 0 && (heap & second) != 0 ? 1 : 0;
        }
    }
}
