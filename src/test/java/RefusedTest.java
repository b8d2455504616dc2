import java.util.function.ToIntFunction;

/**
 * Calls that are REFUSED: by the first of their reasons, with all else as it was, told by count() and status(). Each is held against
 * a twin that got the same calls but this one.
 */
public final class RefusedTest {
    private static final int[] REASONS = {-1, -2, -3, -5, -6};

    private RefusedTest() {
    }

    public static void main(String[] args) {
        numbers();
        noRoom();
        noSuch();
        cantBe();
        nothingThere();
        unreadable();
        firstOfTwo();
        countsAndStatus();
        Due.end("RefusedTest");
    }

    /** No room is left in it, for CLERKS, LAWS, SEEN, BOOKED, DAYS; some deeds can be undone; some bytes are on the TAPE. */
    private static LedgerHounds full() {
        LedgerHounds x = new LedgerHounds();
        for (int c = 0; c < 25; c++) {
            x.enter(c, c == 3 ? 999 : 30 + c);
        }
        x.enter(20, 0);
        for (int i = 0; i < 5; i++) {
            x.told(0, i, 100 + i);
            x.told(1, i, 200 - i);
            x.clerk(9 - i);
        }
        for (int i = 0; i < 6; i++) {
            Due.law(x, "leads " + i + "; bars if cell = 21; takes 0 if cell = 22");
        }
        x.force(2);
        for (int i = 0; i < 8; i++) {
            x.seen(i, 0, i);
        }
        for (int i = 0; i < 10; i++) {
            x.booked(i % 5, (i + 2) % 5, 10 * i + 1);
        }
        x.terms(0, 998);
        x.weeks(7, 60);
        x.image(0);
        Due.orders(x, "pass; fence 25");
        x.fence(4);
        x.take(5, 1);
        x.pass();
        x.feed(0x01020304, 0x05060708, 0x090a0b0c, 0x0d0e0f10, 0x11120000);
        x.end(19);
        return x;
    }

    /** Nothing is in it but one IMAGE of nothing. */
    private static LedgerHounds bare() {
        LedgerHounds x = new LedgerHounds();
        x.image(0);
        return x;
    }

    private static void refused(String call, int by, ToIntFunction<LedgerHounds> asked) {
        leaves("full: " + call, by, full(), full(), asked, "");
    }

    private static void refusedBare(String call, int by, ToIntFunction<LedgerHounds> asked) {
        leaves("bare: " + call, by, bare(), bare(), asked, "");
    }

    private static void leaves(String call, int by, LedgerHounds x, LedgerHounds twin, ToIntFunction<LedgerHounds> asked, String but) {
        Due.is(call, asked.applyAsInt(x), by);
        Due.is(call + ": status()", x.status(), by);
        for (int i = 0; i < REASONS.length; i++) {
            Due.is(call + ": count(" + (7 + i) + ")", x.count(7 + i), twin.count(7 + i) + (REASONS[i] == by ? 1 : 0));
        }
        Looks.alike(call, Looks.at(x), Looks.at(twin), but);
        Looks.alike(call, Looks.behind(x), Looks.behind(twin), but);
    }

    /** "-1 a number that can't be". */
    private static void numbers() {
        refused("enter: no CELL", -1, x -> x.enter(25, 1));
        refused("enter: no ENTRY", -1, x -> x.enter(1, 1000));
        refused("told: no kind", -1, x -> x.told(2, 0, 5));
        refused("told: no ROW", -1, x -> x.told(0, 5, 5));
        refused("told: no sum", -1, x -> x.told(0, 0, 10000));
        refused("terms: no TERM", -1, x -> x.terms(3, 1));
        refused("terms: no DAY", -1, x -> x.terms(0, 1000));
        refused("take: no CELL", -1, x -> x.take(25, 0));
        refused("shift: no CELL", -1, x -> x.shift(25, 0, 1));
        refused("shift: to no CELL", -1, x -> x.shift(0, 25, 1));
        refused("shift: the same", -1, x -> x.shift(6, 6, 1));
        refused("shift: nothing", -1, x -> x.shift(6, 7, 0));
        refused("shift: too much", -1, x -> x.shift(3, 7, 1000));
        refused("fence: no CELL", -1, x -> x.fence(25));
        refused("weeks: no SEED", -1, x -> x.weeks(1000001, 1));
        refused("weeks: no DAYS", -1, x -> x.weeks(1, 0));
        refused("weeks: too many", -1, x -> x.weeks(1, 61));
        refused("image", -1, x -> x.image(2));
        refused("back", -1, x -> x.back(2));
        refusedBare("clerk", -1, x -> x.clerk(10));
        refusedBare("seen: no CELL", -1, x -> x.seen(25, 0, 0));
        refusedBare("seen: no STEPS", -1, x -> x.seen(0, 100, 0));
        refusedBare("seen: nowhere", -1, x -> x.seen(0, 0, 26));
        refusedBare("booked: alike ACCOUNTS", -1, x -> x.booked(1, 1, 1));
        refusedBare("booked: nothing", -1, x -> x.booked(0, 1, 0));
        refusedBare("booked: too much", -1, x -> x.booked(0, 1, 1000));
    }

    /** "-5 no room". */
    private static void noRoom() {
        refused("a sixth CLERK", -5, x -> x.clerk(5));
        refused("a ninth SEEN", -5, x -> x.seen(0, 0, 0));
        refused("an eleventh BOOKED", -5, x -> x.booked(0, 1, 1));
        LedgerHounds twin = full();
        twin.end(0);
        leaves("full: a seventh LAW", -5, full(), twin, x -> x.law(), "");
        leaves("full: a seventh LAW that can't be read", -5, full(), twinWithout("leads"), x -> Due.law(x, "leads"), "");
    }

    /** The calls that put the text, but the TAPE is empty then. */
    private static LedgerHounds twinWithout(String text) {
        LedgerHounds twin = full();
        Due.tape(twin, text);
        twin.end(0);
        return twin;
    }

    /** "-2 there is no such CLERK, LAW, IMAGE". */
    private static void noSuch() {
        refused("take: no CLERK", -2, x -> x.take(5, 5));
        refused("take: no CLERK below", -2, x -> x.take(5, -1));
        refused("force: no LAW", -2, x -> x.force(6));
        refused("force: below NONE", -2, x -> x.force(-2));
        refused("back: not kept", -2, x -> x.back(1));
        refusedBare("take: none at all", -2, x -> x.take(5, 0));
        refusedBare("force: none at all", -2, x -> x.force(0));
        LedgerHounds none = new LedgerHounds();
        Due.is("back: none at all", none.back(0), -2);
        Due.is("back: none at all", none.status(), -2);
        Due.is("back: none at all", none.count(8), 1);
    }

    /** "-3 it can't be by what stands". */
    private static void cantBe() {
        refused("take: nothing there", -3, x -> x.take(20, 0));
        refused("take: BARRED", -3, x -> x.take(21, 0));
        refused("take: TAKES nothing", -3, x -> x.take(22, 0));
        refused("shift: not as much", -3, x -> x.shift(6, 7, 37));
        refused("shift: 999 there", -3, x -> x.shift(6, 3, 1));
        refused("pass: the last DAY", -3, x -> x.pass());
        LedgerHounds twin = full();
        Due.tape(twin, "");
        leaves("full: orders that can't be", -3, full(), twin, x -> Due.orders(x, "fence 1; take 6 by 2; shift 3 to 6 of 50; pass"), "fault stopped");
        leaves("full: orders that are BROKEN", -3, full(), twinOfOrders(), x -> Due.orders(x, "fence 1; fence 1/0"), "fault stopped");
    }

    private static LedgerHounds twinOfOrders() {
        LedgerHounds twin = full();
        twin.end(0);
        return twin;
    }

    private static void nothingThere() {
        refusedBare("undo: there is none", -3, x -> x.undo());
        refusedBare("weeks: there are no CLERKS", -3, x -> x.weeks(1, 1));
        refusedBare("take: of the first CELL", -2, x -> x.take(0, 0));
        refusedBare("shift: of nothing", -3, x -> x.shift(0, 1, 1));
        refusedBare("row: the TAPE is empty", -6, x -> x.row());
        leaves("bare: law: the TAPE is empty", -6, bare(), bare(), x -> x.law(), "fault");
        leaves("bare: orders: the TAPE is empty", -6, bare(), bare(), x -> x.orders(), "fault");
    }

    /** "-6 a TEXT, a ROW that can't be". */
    private static void unreadable() {
        leaves("bare: a LAW", -6, bare(), bare(), x -> Due.law(x, "leads 1; bites if"), "fault");
        leaves("bare: ORDERS", -6, bare(), bare(), x -> Due.orders(x, "pass; fence 3; take 1"), "fault");
        LedgerHounds twin = full();
        twin.end(0);
        leaves("full: ORDERS", -6, full(), twin, x -> Due.orders(x, "fence 3; fence 4;"), "fault stopped");
        leaves("full: a row of an empty TAPE", -6, emptied(), emptied(), x -> x.row(), "");
    }

    private static LedgerHounds emptied() {
        LedgerHounds x = full();
        x.end(0);
        return x;
    }

    /** "The first of these in that order": wherever two reasons meet. */
    private static void firstOfTwo() {
        Object[][] two = {
            {"clerk: -1 ahead of -5", -1, full().clerk(10)},
            {"clerk: -1 ahead of -5", -1, full().clerk(-1)},
            {"take: -1 ahead of -2", -1, full().take(25, 5)},
            {"take: -1 ahead of -2", -1, full().take(-1, -1)},
            {"take: -1 ahead of -2, none at all", -1, bare().take(25, 0)},
            {"take: -2 ahead of -3, nothing there", -2, full().take(20, 5)},
            {"take: -2 ahead of -3, BARRED", -2, full().take(21, 5)},
            {"take: -2 ahead of -3, TAKES nothing", -2, full().take(22, -1)},
            {"shift: -1 ahead of -3, nothing there", -1, full().shift(20, 20, 1)},
            {"shift: -1 ahead of -3, to no CELL", -1, full().shift(20, 25, 1)},
            {"shift: -1 ahead of -3, from no CELL", -1, full().shift(25, 3, 1)},
            {"shift: -1 ahead of -3, nothing to a full one", -1, full().shift(6, 3, 0)},
            {"shift: -1 ahead of -3, too much", -1, full().shift(6, 7, 1000)},
            {"seen: -1 ahead of -5", -1, full().seen(25, 0, 0)},
            {"seen: -1 ahead of -5", -1, full().seen(0, 100, 0)},
            {"seen: -1 ahead of -5", -1, full().seen(0, 0, 26)},
            {"booked: -1 ahead of -5", -1, full().booked(5, 0, 1)},
            {"booked: -1 ahead of -5", -1, full().booked(0, 0, 1)},
            {"booked: -1 ahead of -5", -1, full().booked(0, 1, 0)},
            {"weeks: -1 ahead of -3", -1, bare().weeks(1000001, 1)},
            {"weeks: -1 ahead of -3", -1, bare().weeks(0, 0)},
            {"back: -1 ahead of -2", -1, new LedgerHounds().back(2)},
            {"law: -5 ahead of -6", -5, Due.law(full(), "leads")},
            {"law: -5 ahead of -6, an empty TAPE", -5, Due.law(full(), "")},
            {"orders: -3 within a TEXT that can be read alone", -6, Due.orders(full(), "fence 25; fence")}};
        for (Object[] t : two) {
            Due.is((String) t[0], (Integer) t[2], (Integer) t[1]);
        }
    }

    /** Each kind of REFUSED call is counted once, by its own number; calls that answer NONE, NOTHING are none. */
    private static void countsAndStatus() {
        LedgerHounds x = full();
        int[] was = new int[5];
        for (int i = 0; i < 5; i++) {
            was[i] = x.count(7 + i);
        }
        for (int round = 1; round <= 20; round++) {
            int[] told = {x.fence(25), x.status(), x.force(6), x.status(), x.pass(), x.status(), x.clerk(1), x.status(), x.orders(), x.status()};
            for (int i = 0; i < 5; i++) {
                Due.is("answer", told[2 * i], REASONS[i]);
                Due.is("status()", told[2 * i + 1], REASONS[i]);
                Due.is("count(" + (7 + i) + ")", x.count(7 + i), was[i] + round);
            }
        }
        LedgerHounds y = full();
        int[] nothing = {y.at(25, 0), y.of(5, 0), y.asks(5, 0, 0), y.end(21), y.hound(25, 0), y.ring(25, 0), y.sources(25), y.casts(2),
            y.next(100, 0), y.through(0, 0, 0), (int) y.few(0, 0), y.drawn(25, 0), y.count(16), y.turned(-2), y.off(2, 0) + 99999};
        for (int i = 0; i < nothing.length; i++) {
            Due.is("NONE " + i, nothing[i], -1);
        }
        Due.is("status() stays", y.status(), 0);
        for (int i = 0; i < 5; i++) {
            Due.is("count(" + (7 + i) + ") stays", y.count(7 + i), was[i]);
        }
    }
}
