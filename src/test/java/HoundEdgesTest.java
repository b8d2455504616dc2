/** FEWEST, TURNED, HOUNDS, RINGS, SOURCES, CASTS, SEEN, FITTING and NEXT at their edges: Term III, promises 24 to 32. */
public final class HoundEdgesTest {
    private static final int ALL = (1 << 25) - 1;

    private HoundEdgesTest() {
    }

    public static void main(String[] args) {
        fewestHeaps();
        fewestCant();
        fewestFar();
        fewestAnew();
        turnedRows();
        turnedRising();
        steps();
        edges();
        fencedIn();
        bitesFirst();
        asAskedOfACell();
        ledNearest();
        longestWay();
        longestRing();
        ringsOfTwo();
        castsFewAndMany();
        seenNoRoom();
        fittingAll();
        nextLowest();
        nextNone();
        nextOfOne();
        Due.end("HoundEdgesTest");
    }

    private static LedgerHounds offBy(int... off) {
        LedgerHounds x = new LedgerHounds();
        for (int i = 0; i < 5; i++) {
            x.enter(6 * i, 900);
        }
        for (int i = 0; i < 10; i++) {
            x.told(i / 5, i % 5, 900 + off[i]);
        }
        return x;
    }

    /** "as many as are in a heap, one less, if both are in it; the least together". */
    private static void fewestHeaps() {
        Due.is("nothing OFF", new LedgerHounds().fewest(), 0);
        Due.is("nothing OFF", offBy(0, 0, 0, 0, 0, 0, 0, 0, 0, 0).fewest(), 0);
        Due.is("one of each, the first", offBy(1, 0, 0, 0, 0, 1, 0, 0, 0, 0).fewest(), 1);
        Due.is("one of each, the last", offBy(0, 0, 0, 0, -1, 0, 0, 0, 0, -1).fewest(), 1);
        Due.is("ROWS alone", offBy(1, -1, 0, 0, 0, 0, 0, 0, 0, 0).fewest(), 2);
        Due.is("all ROWS alone", offBy(1, 2, 3, 4, -10, 0, 0, 0, 0, 0).fewest(), 5);
        Due.is("COLUMNS alone", offBy(0, 0, 0, 0, 0, 1, -1, 0, 0, 0).fewest(), 2);
        Due.is("all COLUMNS alone", offBy(0, 0, 0, 0, 0, 4, 4, 4, 4, -16).fewest(), 5);
        Due.is("both alone are better as one heap", offBy(1, -1, 0, 0, 0, 7, -7, 0, 0, 0).fewest(), 3);
        Due.is("five heaps", offBy(1, 2, 3, 4, 5, 5, 4, 3, 2, 1).fewest(), 5);
        Due.is("one heap of ten", offBy(1, 20, 300, 300, 300, 5, 17, 199, 333, 367).fewest(), 9);
        Due.is("two heaps, not the first that is found", offBy(3, 5, 0, 0, 0, 2, 1, 5, 0, 0).fewest(), 3);
        Due.is("turned signs", offBy(5, -5, 0, 0, 0, -5, 5, 0, 0, 0).fewest(), 2);
    }

    /** "they can't, if all ROWS are not OFF by as much as all COLUMNS". */
    private static void fewestCant() {
        Due.is("a ROW alone", offBy(1, 0, 0, 0, 0, 0, 0, 0, 0, 0).fewest(), -1);
        Due.is("a COLUMN alone", offBy(0, 0, 0, 0, 0, 0, 0, 0, 0, -1).fewest(), -1);
        Due.is("one more", offBy(1, 2, 3, 4, 5, 5, 4, 3, 2, 2).fewest(), -1);
        Due.is("against one another", offBy(5, 0, 0, 0, 0, -5, 0, 0, 0, 0).fewest(), -1);
        LedgerHounds x = offBy(1, 0, 0, 0, 0, 0, 0, 0, 0, 0);
        x.fewest();
        Due.is("NONE is not REFUSED", x.status() + x.count(9), 0);
    }

    private static void fewestFar() {
        LedgerHounds x = new LedgerHounds();
        for (int i = 0; i < 5; i++) {
            x.told(0, i, 9999);
            x.told(1, i, 9999);
        }
        Due.is("9,999 each", x.fewest(), 5);
        for (int c = 0; c < 25; c++) {
            x.enter(c, 999);
        }
        for (int i = 0; i < 5; i++) {
            x.told(0, i, 0);
            x.told(1, i, 0);
        }
        Due.is("-4,995 each", x.fewest(), 5);
        x.told(1, 4, 1);
        Due.is("one less", x.fewest(), -1);
    }

    /** "leave nothing OFF": each ROW and each COLUMN counts. */
    private static void turnedRows() {
        for (int kind = 0; kind < 2; kind++) {
            for (int i = 0; i < 5; i++) {
                LedgerHounds x = new LedgerHounds();
                Due.is("all are alike", x.turned(-1), 300);
                x.told(kind, i, 1);
                Due.is("one is OFF", x.turned(-1), 0);
                Due.is("one is OFF", x.turned(0), -1);
            }
        }
        LedgerHounds x = new LedgerHounds();
        x.enter(0, 999);
        x.told(0, 4, 999);
        x.told(1, 4, 999);
        Due.is("the first for the last", x.turned(-1), 1);
        Due.is("the first for the last", x.turned(0), 24);
        Due.is("no second", x.turned(1), -1);
        Due.is("not changed by that", x.at(0, 0) * 10 + x.at(24, 0), 9990);
        x.told(0, 4, 0);
        x.told(0, 0, 999);
        Due.is("within a ROW", x.turned(0), 4);
        x.told(1, 4, 0);
        x.told(1, 0, 999);
        Due.is("nothing OFF: those alike among one another", x.turned(-1), 276);
        x.told(0, 0, 0);
        x.told(0, 4, 999);
        Due.is("within a COLUMN", x.turned(0), 20);
    }

    /** "the i-th as 100 times the lower CELL and the higher one, rising". */
    private static void turnedRising() {
        LedgerHounds x = new LedgerHounds();
        int was = -1;
        for (int i = 0; i < 300; i++) {
            int now = x.turned(i);
            Due.holds("rising at " + i, now > was && now / 100 < now % 100 && now % 100 < 25);
            was = now;
        }
        Due.is("the last", was, 2324);
        Due.is("none behind it", x.turned(300), -1);
    }

    /** "behind n STEPS 0 .. 99". */
    private static void steps() {
        LedgerHounds x = Due.under("leads 2; leads 4 if column = 4");
        Due.is("none", x.hound(0, 0), 0);
        Due.is("one", x.hound(0, 1), 1);
        Due.is("99", x.hound(0, 99), 3);
        Due.is("98", x.hound(0, 98), 4);
        for (int c = 0; c < 25; c++) {
            Due.is("none from " + c, x.hound(c, 0), c);
        }
        LedgerHounds y = new LedgerHounds();
        Due.is("OUT", y.hound(24, 1), 25);
        Due.is("OUT stays", y.hound(24, 2) + y.hound(24, 99), 50);
        Due.is("none from an edge", y.hound(24, 0), 24);
    }

    /** "1 a ROW up (to the greater number), 2 a COLUMN on, 3 a ROW down, 4 a COLUMN back"; "LED beyond the edge it is OUT". */
    private static void edges() {
        for (int way = 0; way < 5; way++) {
            LedgerHounds x = Due.under("leads " + way);
            for (int c = 0; c < 25; c++) {
                int row = c / 5 + (way == 1 ? 1 : way == 3 ? -1 : 0);
                int column = c % 5 + (way == 2 ? 1 : way == 4 ? -1 : 0);
                boolean out = row < 0 || row > 4 || column < 0 || column > 4;
                Due.is("way " + way + " from " + c, x.hound(c, 1), out ? 25 : 5 * row + column);
            }
        }
    }

    /** "LED into a FENCE it stays where it is". */
    private static void fencedIn() {
        for (int way = 1; way < 5; way++) {
            LedgerHounds x = Due.under("leads " + way);
            int[] to = {0, 17, 13, 7, 11};
            x.fence(to[way]);
            Due.is("way " + way, x.hound(12, 1), 12);
            Due.is("way " + way + ", later", x.hound(12, 99), 12);
            Due.is("its RING", x.ring(12, 0) * 10 + x.ring(12, 1), 1);
            Due.is("set in a FENCE it goes", x.hound(to[way], 1), to[way] + to[way] - 12);
            x.fence(12);
            Due.is("from a FENCE into a FENCE", x.hound(12, 1), 12);
        }
        LedgerHounds all = new LedgerHounds();
        for (int c = 0; c < 25; c++) {
            all.fence(c);
        }
        Due.is("all FENCES", all.hound(0, 99), 0);
        Due.is("at the edge it is OUT", all.hound(4, 1), 25);
        Due.is("CASTS of all FENCES", all.casts(0), 25);
    }

    /** "where it BITES, or is LED nowhere, it stays". */
    private static void bitesFirst() {
        LedgerHounds x = Due.under("leads 2; bites if column = 4; leads 0 if cell = 7");
        Due.is("it BITES at the edge, so it is not OUT", x.hound(0, 99), 4);
        Due.is("where it is set", x.hound(24, 99), 24);
        Due.is("LED nowhere", x.hound(5, 99), 7);
        Due.is("how many STEPS", x.ring(0, 0) * 10 + x.ring(0, 1), 41);
        Due.is("at once", x.ring(24, 0) * 10 + x.ring(24, 1), 1);
        Due.is("LED nowhere", x.ring(7, 0) * 10 + x.ring(7, 1), 1);
    }

    /** Through all 25 CELLS, then OUT: the longest way that there is. */
    private static void longestWay() {
        LedgerHounds x = Due.under("leads 2; leads 4 if row%2 = 1; leads 1 if column = 4 and row%2 = 0 and row < 4; leads 1 if column = 0 and row%2 = 1");
        Due.is("the last CELL", x.hound(0, 24), 24);
        Due.is("OUT", x.hound(0, 25), 25);
        Due.is("STEPS till OUT", x.ring(0, 0), 25);
        Due.is("OUT is no CELL", x.ring(0, 1), 0);
        Due.is("from all", x.sources(24), ALL);
        Due.is("from itself alone", x.sources(0), 1);
        Due.is("one CAST", x.casts(0), 1);
        Due.is("the first", x.casts(1), 1);
        x.fence(24);
        Due.is("STEPS till it stays", x.ring(0, 0) * 10 + x.ring(0, 1), 231);
        Due.is("the FENCE is come to by none", x.casts(1), 1 | 1 << 24);
    }

    /** A ring of 24 CELLS, CELL 0 outside of it. */
    private static LedgerHounds ringOf24() {
        int[] ways = {0, 1, 4, 1, 4, 1, 4, 3, 1, 3, 1, 2, 3, 1, 3, 1, 3, 4, 4, 3, 2, 2, 2, 2, 3};
        LedgerHounds x = Due.under("leads entry");
        for (int c = 0; c < 25; c++) {
            x.enter(c, ways[c]);
        }
        return x;
    }

    private static void longestRing() {
        LedgerHounds x = ringOf24();
        Due.is("from CELL 1", x.ring(1, 0) * 100 + x.ring(1, 1), 24);
        Due.is("from CELL 24", x.ring(24, 0) * 100 + x.ring(24, 1), 24);
        Due.is("once around", x.hound(1, 24), 1);
        Due.is("four times around, and three", x.hound(1, 99), x.hound(1, 3));
        Due.is("from all but one", x.sources(17), ALL - 1);
        Due.is("CELL 0, and the lowest of the ring", x.casts(1), 3);
        x.enter(0, 2);
        Due.is("CELL 0 comes to it", x.ring(0, 0) * 100 + x.ring(0, 1), 124);
        Due.is("from all", x.sources(17), ALL);
        Due.is("itself, which none comes to", x.sources(0), 1);
        Due.is("the ring is come to", x.casts(0) * 10 + x.casts(1), 11);
        x.fence(1);
        Due.is("CELL 0 stays", x.ring(0, 0) * 100 + x.ring(0, 1), 1);
    }

    private static void ringsOfTwo() {
        LedgerHounds x = Due.under("leads 0; leads 2 if cell = 23; leads 4 if cell = 24; leads 1 if cell = 0; leads 3 if cell = 5");
        Due.is("two CELLS", x.ring(23, 0) * 10 + x.ring(24, 1), 2);
        Due.is("the lower one of each", x.casts(1), ALL & ~(1 << 24 | 1 << 5));
        Due.is("SOURCES of both", x.sources(24), 3 << 23);
        Due.is("SOURCES of both", x.sources(0), 1 | 1 << 5);
        Due.is("there and back", x.hound(24, 99) * 100 + x.hound(24, 98), 2324);
    }

    /** "the fewest CELLS to set hounds at so that each CELL is come to". */
    private static void castsFewAndMany() {
        LedgerHounds x = Due.under("leads 0");
        Due.is("each for itself", x.casts(0), 25);
        Due.is("each for itself", x.casts(1), ALL);
        int[] five = {0, 31, 0b0000100001000010000100001, 31 << 20, 0b1000010000100001000010000};
        for (int way = 1; way < 5; way++) {
            LedgerHounds y = Due.under("leads " + way);
            Due.is("five, way " + way, y.casts(0), 5);
            Due.is("which, way " + way, y.casts(1), five[way]);
            Due.is("CELL 12, way " + way, y.sources(12), way == 1 ? 1 << 2 | 1 << 7 | 1 << 12 : way == 2 ? 7 << 10
                    : way == 3 ? 1 << 12 | 1 << 17 | 1 << 22 : 7 << 12);
        }
        Due.is("without a LAW", new LedgerHounds().casts(0), 5);
    }

    /** "SEEN, 8 at most"; "how often there was". */
    private static void seenNoRoom() {
        LedgerHounds x = Due.under("leads 2");
        for (int i = 1; i <= 8; i++) {
            Due.is("SEEN " + i, x.seen(0, 99, 25), i);
            Due.is("count(2)", x.count(2), i);
        }
        Due.is("no room", x.seen(0, 0, 1), -5);
        Due.is("it is not among them", x.fits(), 1);
        Due.is("count(2)", x.count(2), 8);
        Due.is("forgotten", x.forget(), 8);
        Due.is("room again", x.seen(0, 0, 1), 1);
        Due.is("it is among them", x.fits(), 0);
    }

    /** "LAWS told by each of which all SEEN would be so". */
    private static void fittingAll() {
        LedgerHounds x = new LedgerHounds();
        x.seen(0, 1, 1);
        Due.is("no LAW", x.fits(), 0);
        x.forget();
        String[] laws = {"leads 0", "leads 1", "leads 2", "leads 3", "leads 4", "leads 2; bites if cell = 24"};
        for (int i = 0; i < 6; i++) {
            Due.law(x, laws[i]);
            Due.is("nothing SEEN", x.fits(), (2 << i) - 1);
        }
        for (int i = 0; i < 7; i++) {
            x.seen(i, 0, i);
        }
        Due.is("seven that all fit", x.fits(), 63);
        x.seen(24, 99, 24);
        Due.is("the eighth tells", x.fits(), 1 | 32);
        x.forget();
        x.seen(24, 1, 25);
        Due.is("OUT", x.fits(), 2 | 4);
        x.seen(0, 1, 25);
        Due.is("none", x.fits(), 0);
        x.forget();
        x.seen(0, 1, 0);
        x.fence(1);
        x.fence(5);
        Due.is("by FENCES as they are", x.fits(), 1 | 2 | 4 | 32);
    }

    /** "the most of the LAWS that FIT would have the hound at one CELL (or OUT) are as few as can be; the lowest". */
    private static void nextLowest() {
        LedgerHounds x = new LedgerHounds();
        for (int i = 0; i < 6; i++) {
            Due.law(x, "leads 0");
        }
        Due.is("all alike", x.next(99, 0) * 10 + x.next(99, 1), 6);
        for (int cell = 0; cell < 25; cell += 6) {
            LedgerHounds y = new LedgerHounds();
            for (int i = 0; i < 5; i++) {
                Due.law(y, "leads 0");
            }
            Due.law(y, "leads 0; leads 1 if cell = " + cell + "; leads 3 if cell = 24");
            Due.is("the sixth is unlike at " + cell, y.next(1, 0), cell);
            Due.is("five are left", y.next(1, 1), 5);
            Due.is("behind no STEPS", y.next(0, 0) * 10 + y.next(0, 1), 6);
        }
        LedgerHounds z = new LedgerHounds();
        for (int i = 0; i < 5; i++) {
            Due.law(z, "leads " + i);
        }
        Due.is("at CELL 0 two are OUT", z.next(1, 0), 1);
        Due.is("at CELL 1 all are unlike", z.next(1, 1), 1);
        Due.law(z, "leads 0");
        Due.is("of six two stay at best", z.next(1, 0) * 10 + z.next(1, 1), 2);
        z.force(3);
        Due.is("whatever is in FORCE", z.next(1, 0) * 10 + z.next(1, 1), 2);
        LedgerHounds one = new LedgerHounds();
        Due.law(one, "leads 0");
        Due.law(one, "leads 0; leads 1 if cell = 1");
        Due.is("CELL 1", one.next(1, 0) * 10 + one.next(1, 1), 11);
    }

    /** "NONE (none FITS)". */
    private static void nextNone() {
        LedgerHounds x = new LedgerHounds();
        Due.is("no LAW", x.next(0, 0), -1);
        Due.is("no LAW", x.next(0, 1), -1);
        Due.law(x, "leads 1");
        Due.is("one LAW", x.next(0, 0) * 10 + x.next(0, 1), 1);
        x.seen(3, 0, 4);
        Due.is("none FITS", x.next(1, 0), -1);
        Due.is("none FITS", x.next(1, 1), -1);
        x.forget();
        Due.law(x, "leads 2");
        x.seen(0, 1, 5);
        Due.is("one FITS", x.next(1, 0) * 10 + x.next(1, 1), 1);
        Due.is("NONE is not REFUSED", x.status(), 0);
    }

    /** ""leads", "bites" are asked of a CELL (clerk, keen -1)", also of a HOUND, with CLERKS there. */
    private static void asAskedOfACell() {
        for (String word : new String[] {"clerk", "keen"}) {
            LedgerHounds x = Due.under("leads 3; leads 1 if " + word + " = 0-1; bites if cell = 7 and " + word + " = 0-1");
            x.clerk(5);
            Due.is(word + " leads", x.hound(2, 1), 7);
            Due.is(word + " bites", x.hound(2, 9), 7);
            Due.is(word + " in a ring", x.ring(2, 0), 1);
            Due.is(word + " from where", x.sources(7), 1 << 7 | 1 << 2);
        }
    }

    /** "0 .. 4 (else the nearest)", also of a HOUND. */
    private static void ledNearest() {
        Due.is("5: a COLUMN back", Due.under("leads 5").hound(13, 1), 12);
        Due.is("1,000: a COLUMN back", Due.under("leads 1000").hound(13, 1), 12);
        Due.is("4: a COLUMN back", Due.under("leads 4").hound(13, 1), 12);
        Due.is("0: nowhere", Due.under("leads 0").hound(13, 1), 13);
        Due.is("-1: nowhere", Due.under("leads 0-1").hound(13, 1), 13);
        Due.is("-1,000: nowhere", Due.under("leads 0-1000").hound(13, 1), 13);
    }

    /** FEWEST is of what stands, whatever it was the call ahead; SETTLED is not of it, nor it of SETTLED. */
    private static void fewestAnew() {
        LedgerHounds x = offBy(1, 2, 0, 0, 0, 1, 2, 0, 0, 0);
        Due.is("two heaps", x.fewest(), 2);
        x.told(0, 1, 903);
        x.told(1, 0, 902);
        Due.is("one heap", x.fewest(), 3);
        Due.is("nothing BOOKED", x.settled(), 0);
        x.booked(0, 1, 5);
        Due.is("one payment", x.settled(), 1);
        x.booked(2, 3, 7);
        Due.is("two payments", x.settled(), 2);
        Due.is("still one heap", x.fewest(), 3);
        x.booked(1, 2, 1);
        Due.is("three payments", x.settled(), 3);
        x.told(0, 1, 902);
        x.told(1, 0, 901);
        Due.is("two heaps again", x.fewest(), 2);
    }

    /** "how many are left at most": the one that FITS, whichever it is. */
    private static void nextOfOne() {
        for (int only = 0; only < 6; only++) {
            LedgerHounds x = new LedgerHounds();
            for (int law = 0; law < 6; law++) {
                Due.law(x, law == only ? "leads 1" : "leads 0");
            }
            x.seen(0, 1, 5);
            Due.is("one FITS", x.fits(), 1 << only);
            Due.is("the lowest CELL", x.next(1, 0), 0);
            Due.is("one is left", x.next(1, 1), 1);
        }
    }
}
