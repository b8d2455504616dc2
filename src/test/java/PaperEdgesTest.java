/** BOOKED, GONE THROUGH, CUT, SETTLED, FEW and WEEKS at their edges: Terms III and IV, promises 33 to 39. */
public final class PaperEdgesTest {
    private static final long ALL = 1000000000000L;

    private PaperEdgesTest() {
    }

    public static void main(String[] args) {
        bookedNoRoom();
        throughAll();
        throughBounds();
        cuts();
        settledFewAndMany();
        forgotten();
        fewEdges();
        fewCut();
        weeksSeeds();
        weeksDays();
        weeksLastDays();
        weeksIfItCan();
        weeksClerks();
        weeksByKeen();
        weeksOnPaper();
        latestWeeks();
        Due.end("PaperEdgesTest");
    }

    private static LedgerHounds booked(int... threes) {
        LedgerHounds x = new LedgerHounds();
        for (int i = 0; i < threes.length; i += 3) {
            x.booked(threes[i], threes[i + 1], threes[i + 2]);
        }
        return x;
    }

    /** "BOOKED, 10 at most"; "how often there was". */
    private static void bookedNoRoom() {
        LedgerHounds x = new LedgerHounds();
        for (int i = 1; i <= 10; i++) {
            Due.is("BOOKED " + i, x.booked(0, 4, 999), i);
            Due.is("count(3)", x.count(3), i);
            Due.is("all of it", x.through(0, 4, 0), 999 * i);
        }
        Due.is("no room", x.booked(0, 4, 1), -5);
        Due.is("it is not among them", x.through(0, 4, 0), 9990);
        Due.is("count(3)", x.count(3), 10);
        Due.is("one payment", x.settled(), 1);
        Due.is("forgotten", x.forget(), 10);
        Due.is("room again", x.booked(0, 4, 1), 1);
        Due.is("it is among them", x.through(0, 4, 0), 1);
    }

    private static void throughAll() {
        for (int from = 0; from < 5; from++) {
            for (int to = 0; to < 5; to++) {
                if (from != to) {
                    LedgerHounds x = booked(from, to, 1);
                    Due.is("1 from " + from + " to " + to, x.through(from, to, 0), 1);
                    Due.is("nothing back", x.through(to, from, 0), 0);
                    Due.is("the CUT", x.through(from, to, 1), 1 << from);
                    Due.is("nothing BOOKED", new LedgerHounds().through(from, to, 0), 0);
                    Due.is("the CUT of nothing", new LedgerHounds().through(from, to, 1), 1 << from);
                }
            }
        }
    }

    /** "along all BOOKED, each as much as was BOOKED at most". */
    private static void throughBounds() {
        Due.is("the lesser one", booked(0, 1, 999, 1, 2, 1).through(0, 2, 0), 1);
        Due.is("the lesser one", booked(0, 1, 1, 1, 2, 999).through(0, 2, 0), 1);
        Due.is("along all ACCOUNTS", booked(0, 1, 5, 1, 2, 6, 2, 3, 7, 3, 4, 8).through(0, 4, 0), 5);
        Due.is("three ways", booked(0, 1, 5, 1, 4, 5, 0, 2, 6, 2, 4, 6, 0, 3, 7, 3, 4, 7).through(0, 4, 0), 18);
        Due.is("twice BOOKED", booked(0, 1, 5, 0, 1, 6).through(0, 1, 0), 11);
        Due.is("not against the way", booked(1, 0, 5, 1, 2, 5).through(0, 2, 0), 0);
        Due.is("one way must give way", booked(0, 1, 1, 0, 2, 1, 1, 2, 1, 1, 4, 1, 2, 4, 1).through(0, 4, 0), 2);
    }

    /** "of all sets of ACCOUNTS with the one, without the other one, out of which just so much is BOOKED, the lowest as bits". */
    private static void cuts() {
        Due.is("the ACCOUNT alone", booked(4, 0, 3).through(4, 0, 1), 16);
        Due.is("lower with more in it", booked(4, 0, 9, 4, 1, 9, 0, 3, 1, 1, 3, 1).through(4, 3, 1), 19);
        Due.is("all but the other one", booked(0, 1, 9, 1, 2, 9, 2, 3, 9, 3, 4, 1).through(0, 4, 1), 15);
        Due.is("all but ACCOUNT 0", booked(4, 3, 9, 3, 2, 9, 2, 1, 9, 1, 0, 1).through(4, 0, 1), 30);
        Due.is("the lowest of two", booked(0, 1, 5, 1, 2, 5).through(0, 2, 1), 1);
        Due.is("the lowest of two", booked(2, 1, 5, 1, 0, 5).through(2, 0, 1), 4);
        Due.is("nothing goes: those that come from nowhere else", booked(1, 2, 5).through(0, 2, 1), 1);
        Due.is("nothing goes, the ACCOUNT it goes to must be in it", booked(0, 1, 5).through(0, 4, 1), 3);
    }

    /** "how many of them are not even, less the most heaps of these that are even together". */
    private static void settledFewAndMany() {
        Due.is("nothing", new LedgerHounds().settled(), 0);
        Due.is("1 once", booked(0, 1, 1).settled(), 1);
        Due.is("1 back", booked(1, 0, 1).settled(), 1);
        Due.is("the last ACCOUNTS", booked(3, 4, 999).settled(), 1);
        Due.is("even again", booked(0, 1, 999, 1, 0, 999).settled(), 0);
        Due.is("around all", booked(0, 1, 7, 1, 2, 7, 2, 3, 7, 3, 4, 7, 4, 0, 7).settled(), 0);
        Due.is("one less around", booked(0, 1, 7, 1, 2, 7, 2, 3, 7, 3, 4, 7, 4, 0, 6).settled(), 1);
        Due.is("two heaps of two", booked(0, 1, 5, 2, 3, 5).settled(), 2);
        Due.is("four payments", booked(0, 1, 1, 0, 2, 1, 0, 3, 1, 0, 4, 1).settled(), 4);
        Due.is("a heap of two and one of three", booked(0, 1, 5, 2, 3, 3, 2, 4, 4).settled(), 3);
        Due.is("ten of them", booked(0, 1, 999, 0, 1, 999, 0, 1, 999, 0, 1, 999, 0, 1, 999, 0, 1, 999, 0, 1, 999, 0, 1, 999, 0, 1, 999, 2, 3, 1)
                .settled(), 2);
    }

    /** "SEEN, BOOKED are nothing then: how often there was, together". */
    private static void forgotten() {
        LedgerHounds x = new LedgerHounds();
        Due.is("nothing", x.forget(), 0);
        for (int i = 0; i < 8; i++) {
            x.seen(i, 0, i);
        }
        for (int i = 0; i < 10; i++) {
            x.booked(0, 1, 1);
        }
        Due.is("all that can be", x.forget(), 18);
        Due.is("nothing then", x.count(2) + x.count(3) + x.forget(), 0);
        Due.is("nothing then", x.through(0, 1, 0) + x.settled(), 0);
        x.seen(0, 0, 0);
        Due.is("SEEN alone", x.forget(), 1);
        x.booked(0, 1, 1);
        Due.is("BOOKED alone", x.forget(), 1);
    }

    private static long few(int slip, int k, int n) {
        LedgerHounds x = new LedgerHounds();
        x.terms(1, slip);
        return x.few(k, n);
    }

    /** "each with a slip in SLIP of ten, fewer than k have one". */
    private static void fewEdges() {
        for (int slip = 0; slip <= 10; slip++) {
            Due.is("no DAYS", few(slip, 1, 0), ALL);
            Due.is("no DAYS", few(slip, 20, 0), ALL);
            Due.is("one DAY without", few(slip, 1, 1), ALL / 10 * (10 - slip));
            Due.is("one DAY, fewer than two", few(slip, 2, 1), ALL);
            Due.is("two DAYS without", few(slip, 1, 2), ALL / 100 * (10 - slip) * (10 - slip));
            Due.is("two DAYS, not both", few(slip, 2, 2), ALL / 100 * (100 - slip * slip));
            Due.is("twelve DAYS, fewer than 13", few(slip, 13, 12), ALL);
            Due.is("twelve DAYS, fewer than 20", few(slip, 20, 12), ALL);
        }
        Due.is("never a slip", few(0, 1, 99), ALL);
        Due.is("never a slip", few(0, 20, 99), ALL);
        Due.is("always, 19 DAYS", few(10, 20, 19), ALL);
        Due.is("always, 20 DAYS", few(10, 20, 20), 0);
        Due.is("always, 99 DAYS", few(10, 20, 99), 0);
        Due.is("always, one DAY", few(10, 1, 1), 0);
        Due.is("SLIP 1 at first", new LedgerHounds().few(1, 1), 900000000000L);
    }

    /** "each part is cut": the first DAY on which there is something to cut is the 13th. */
    private static void fewCut() {
        Due.is("12 DAYS", few(1, 1, 12), 282429536481L);
        Due.is("13 DAYS, 9 parts of ten", few(1, 1, 13), 254186582832L);
        Due.is("99 DAYS of 9 slips in ten", few(9, 1, 99), 0);
        Due.is("12 DAYS of 9 slips in ten", few(9, 1, 12), 1);
        Due.is("13 DAYS of 9 slips in ten", few(9, 1, 13), 0);
    }

    private static LedgerHounds clerks(int n, int entry) {
        LedgerHounds x = new LedgerHounds();
        for (int i = 0; i < n; i++) {
            x.clerk(i);
        }
        for (int c = 0; c < 25; c++) {
            x.enter(c, entry);
        }
        return x;
    }

    /** "s is the SEED (0 .. 1,000,000)"; "s becomes (s times 1103 and 12345) modulo 1,000,003". */
    private static void weeksSeeds() {
        int[] seeds = {0, 1, 499999, 999999, 1000000};
        for (int seed : seeds) {
            LedgerHounds x = clerks(5, 50);
            long s = (seed * 1103L + 12345) % 1000003;
            int clerk = (int) (s % 5);
            s = (s * 1103L + 12345) % 1000003;
            int cell = (int) (s % 25);
            Due.is("one DAY from " + seed, x.weeks(seed, 1), 10);
            for (int c = 0; c < 25; c++) {
                Due.is("CELL " + c + " from " + seed, x.drawn(c, 0), c == cell ? 40 : 50);
            }
            for (int i = 0; i < 5; i++) {
                Due.is("CLERK " + i + " from " + seed, x.drawn(i, 1), i == clerk ? 10 : 0);
            }
        }
        int toNothing = seedThatComesToNothing();
        LedgerHounds x = clerks(5, 50);
        x.weeks(toNothing, 1);
        Due.is("s is 0: CLERK 0", x.drawn(0, 1), 10);
        Due.is("s is 12345: CELL 20", x.drawn(20, 0), 40);
    }

    /** One from which s becomes 0, the least that it can be. */
    private static int seedThatComesToNothing() {
        for (int seed = 0; seed <= 1000000; seed++) {
            if ((seed * 1103L + 12345) % 1000003 == 0) {
                return seed;
            }
        }
        return 0;
    }

    /** "n DAYS 1 .. 60". */
    private static void weeksDays() {
        LedgerHounds x = clerks(1, 999);
        for (int n = 1; n <= 60; n++) {
            Due.is(n + " DAYS", x.weeks(5, n), 10 * n);
            Due.is(n + " DAYS", x.drawn(0, 1), 10 * n);
        }
        Due.is("none", x.weeks(5, 0), -1);
        Due.is("61", x.weeks(5, 61), -1);
        Due.is("DAY itself", x.count(13), 0);
    }

    /** "Each DAY (at 999 it ends)". */
    private static void weeksLastDays() {
        int[][] due = {{938, 60}, {939, 60}, {940, 59}, {997, 2}, {998, 1}, {999, 0}};
        for (int[] d : due) {
            LedgerHounds x = clerks(1, 999);
            x.terms(0, d[0]);
            Due.is("60 DAYS from DAY " + d[0], x.weeks(5, 60), 10 * d[1]);
            Due.is("HAND", x.drawn(0, 1), 10 * d[1]);
            Due.is("DAY itself", x.count(13), d[0]);
        }
        LedgerHounds x = Due.under("takes 1; takes 50 if day = 998; takes 60 if day = 999");
        x.clerk(1);
        for (int c = 0; c < 25; c++) {
            x.enter(c, 999);
        }
        x.terms(0, 997);
        Due.is("997 and 998", x.weeks(5, 60), 51);
    }

    /** "that CLERK TAKES there, if it can; then the DAY passes". */
    private static void weeksIfItCan() {
        LedgerHounds x = clerks(1, 0);
        Due.is("nothing there", x.weeks(5, 60), 0);
        Due.is("a DAY that takes nothing is not REFUSED", x.status() + x.count(9), 0);
        LedgerHounds y = Due.under("takes 5; bars if day < 59");
        y.clerk(1);
        for (int c = 0; c < 25; c++) {
            y.enter(c, 9);
        }
        Due.is("BARRED till the 60th", y.weeks(5, 60), 5);
        Due.is("BARRED on all", y.weeks(5, 59), 0);
        LedgerHounds z = Due.under("takes 0; takes 1 if day = 3");
        z.clerk(1);
        for (int c = 0; c < 25; c++) {
            z.enter(c, 9);
        }
        Due.is("TAKES nothing but on DAY 3", z.weeks(5, 60), 1);
        LedgerHounds few = clerks(1, 7);
        few.weeks(5, 60);
        int left = 0;
        for (int c = 0; c < 25; c++) {
            int there = few.drawn(c, 0);
            Due.holds("all or nothing of 7", there == 0 || there == 7);
            left += there;
        }
        Due.is("as much as there is, once each", few.weeks(5, 60), 25 * 7 - left);
    }

    /** "a DRAW of m": of as many CLERKS as there are. */
    private static void weeksClerks() {
        Due.is("there are no CLERKS", clerks(0, 50).weeks(0, 1), -3);
        for (int n = 1; n <= 5; n++) {
            LedgerHounds x = clerks(n, 999);
            x.weeks(9, 60);
            int sum = 0;
            for (int i = 0; i < n; i++) {
                Due.holds("each of " + n + " is drawn", x.drawn(i, 1) > 0);
                sum += x.drawn(i, 1);
            }
            Due.is("all HANDS of " + n, sum, 600);
            Due.is("no CLERK " + n, x.drawn(n, 1), -1);
        }
    }

    /** "on paper": nothing of the ledger is other than it was. */
    private static void weeksOnPaper() {
        LedgerHounds x = clerks(3, 77);
        LedgerHounds twin = clerks(3, 77);
        x.image(0);
        twin.image(0);
        x.fence(3);
        twin.fence(3);
        Due.is("weeks", x.weeks(4, 60), 600);
        StringBuilder but = new StringBuilder();
        for (int i = 0; i < 25; i++) {
            but.append("drawn ").append(i).append(' ').append("drawn hand ").append(i).append(' ');
        }
        Looks.alike("on paper", Looks.at(x), Looks.at(twin), but.toString());
        Looks.alike("on paper", Looks.behind(x), Looks.behind(twin), "");
    }

    /** "kept as the latest"; NONE ahead of any; a REFUSED one is none. */
    private static void latestWeeks() {
        LedgerHounds x = clerks(2, 50);
        Due.is("ahead of any", x.drawn(0, 0) + x.drawn(24, 0) + x.drawn(0, 1), -3);
        Due.is("REFUSED", x.weeks(0, 61), -1);
        Due.is("still ahead of any", x.drawn(0, 0) + x.drawn(0, 1), -2);
        x.weeks(0, 1);
        Due.is("CELL 16, by CLERK 1", x.drawn(16, 0) * 100 + x.drawn(1, 1), 4010);
        x.weeks(1000001, 9);
        x.weeks(0, 0);
        Due.is("REFUSED ones change nothing", x.drawn(16, 0) * 100 + x.drawn(1, 1), 4010);
        x.enter(16, 999);
        x.clerk(3);
        x.take(16, 1);
        Due.is("nor do other calls", x.drawn(16, 0) * 100 + x.drawn(1, 1), 4010);
        Due.is("the third CLERK came later", x.drawn(2, 1), -1);
        x.enter(16, 0);
        x.terms(0, 999);
        Due.is("on the last DAY", x.weeks(0, 60), 0);
        Due.is("the latest now", x.drawn(16, 0) * 100 + x.drawn(1, 1), 10);
        Due.is("the third CLERK is there", x.drawn(2, 1), 0);
    }

    /** On paper each CLERK has its KEEN, each LAW stands. */
    private static void weeksByKeen() {
        LedgerHounds x = new LedgerHounds();
        for (int c = 0; c < 25; c++) {
            x.enter(c, 999);
        }
        for (int i = 0; i < 5; i++) {
            x.clerk(9 - 2 * i);
        }
        for (int i = 0; i < 6; i++) {
            Due.law(x, "takes " + (i + 1) + " * [keen + 1]");
        }
        for (int law = 0; law < 6; law++) {
            x.force(law);
            int s = 17;
            int[] hands = new int[5];
            for (int day = 0; day < 40; day++) {
                s = (int) ((s * 1103L + 12345) % 1000003);
                hands[s % 5] += (law + 1) * (10 - 2 * (s % 5));
                s = (int) ((s * 1103L + 12345) % 1000003);
            }
            Due.is("WEEKS", x.weeks(17, 40), hands[0] + hands[1] + hands[2] + hands[3] + hands[4]);
            for (int i = 0; i < 5; i++) {
                Due.holds("CLERK " + i + " was drawn", hands[i] > 0);
                Due.is("HAND of CLERK " + i, x.drawn(i, 1), hands[i]);
            }
        }
    }
}
