/** Hounds, their rings, sources and casts, and laws that fit: promises 26 to 32. */
public final class HoundsTest {
    private static final int ALL = (1 << 25) - 1;

    private HoundsTest() {
    }

    public static void main(String[] args) {
        hound();
        ring();
        sources();
        casts();
        seen();
        fits();
        next();
        Due.end("HoundsTest");
    }

    /** Around the outer CELLS against the clock's way of numbers: on, up, back, down. */
    private static LedgerHounds around() {
        return Due.under("leads 0; leads 2 if row = 0; leads 1 if column = 4; leads 4 if row = 4; leads 3 if column = 0; leads 2 if cell = 0;"
                + "leads 4 if cell = 24; leads 3 if cell = 20; leads 1 if cell = 4");
    }

    /** Promise 26. */
    private static void hound() {
        LedgerHounds x = new LedgerHounds();
        Due.is("hound", x.hound(10, 4), 14);
        Due.is("hound", x.hound(10, 5), 25);
        Due.is("hound", x.hound(10, 99), 25);
        Due.is("hound", x.hound(24, 1), 25);
        int[][] wrong = {{25, 0}, {-1, 0}, {0, 100}, {0, -1}, {Integer.MIN_VALUE, 1}, {0, Integer.MAX_VALUE}};
        for (int[] w : wrong) {
            Due.is("hound wrongly", x.hound(w[0], w[1]), -1);
        }
        Due.is("not REFUSED", x.count(7), 0);
        int[] to = {12, 17, 13, 7, 11};
        for (int way = 0; way < 5; way++) {
            Due.is("way " + way, Due.under("leads " + way).hound(12, 1), to[way]);
        }
        int[] edges = {0, 22, 14, 2, 10};
        for (int way = 1; way < 5; way++) {
            Due.is("beyond the edge, way " + way, Due.under("leads " + way).hound(edges[way], 1), 25);
        }
        x = Due.under("leads 2; bites if entry > 9");
        x.enter(3, 10);
        x.enter(2, 9);
        Due.is("bites", x.hound(0, 99), 3);
        Due.is("bites where it is set", x.hound(3, 5), 3);
        x.fence(2);
        Due.is("a fence", x.hound(0, 99), 1);
        Due.is("out of a fence", x.hound(2, 1), 3);
        x.fence(2);
        Due.is("no fence any more", x.hound(0, 2), 2);
        Due.is("around", around().hound(0, 99), around().hound(0, 3));
        Due.is("around", around().hound(0, 15), 5);
    }

    /** Promise 27. */
    private static void ring() {
        LedgerHounds x = around();
        Due.is("on the ring", x.ring(0, 0), 0);
        Due.is("16 cells", x.ring(7, 1) * 100 + x.ring(22, 1), 116);
        x = new LedgerHounds();
        Due.is("steps till OUT", x.ring(2, 0), 3);
        Due.is("no cells", x.ring(2, 1), 0);
        x.fence(4);
        Due.is("steps till it stays", x.ring(0, 0), 3);
        Due.is("one cell", x.ring(0, 1), 1);
        Due.is("out of the fence", x.ring(4, 0), 1);
        x = Due.under("leads 2; leads 4 if column = 3; leads 0 if row = 2");
        Due.is("tail", x.ring(0, 0), 2);
        Due.is("two cells", x.ring(0, 1), 2);
        Due.is("stays at once", x.ring(11, 0) * 10 + x.ring(11, 1), 1);
        Due.is("wrong", x.ring(25, 0) + x.ring(-1, 1) + x.ring(0, 2) + x.ring(0, -1), -4);
    }

    /** Promise 28. */
    private static void sources() {
        LedgerHounds x = new LedgerHounds();
        Due.is("sources", x.sources(0), 1);
        Due.is("sources", x.sources(24), 31 << 20);
        x.fence(23);
        Due.is("sources", x.sources(24), 3 << 23);
        Due.is("sources", x.sources(22), 7 << 20);
        Due.is("wrong", x.sources(25) + x.sources(-1), -2);
        x = around();
        int ring = 0;
        for (int c = 0; c < 25; c++) {
            ring |= c / 5 % 4 == 0 || c % 5 % 4 == 0 ? 1 << c : 0;
        }
        Due.is("sources of a ring", x.sources(14), ring);
        Due.is("of one that stays", x.sources(12), 1 << 12);
    }

    /** Promise 29. */
    private static void casts() {
        LedgerHounds x = around();
        Due.is("one for the ring, nine that stay", x.casts(0), 10);
        Due.is("which", x.casts(1), 1 | 7 << 6 | 7 << 11 | 7 << 16);
        Due.is("wrong", x.casts(2) + x.casts(-1), -2);
        x = Due.under("leads 0");
        Due.is("all", x.casts(0), 25);
        Due.is("all", x.casts(1), ALL);
        x = Due.under("leads 2; leads 4 if column = 3; leads 0 if column = 4");
        Due.is("a ring that is come to", x.casts(0), 10);
        Due.is("which", x.casts(1), 0b1000110001100011000110001);
        x = Due.under("leads 4 if column = 1; leads 2 if column = 0; leads 0 if column > 1");
        Due.is("rings of two, the lower cell", x.casts(1), 0b1110111101111011110111101 & ~0b0001000010000100001000010 | 0b10000 | 1 << 24);
    }

    /** Promise 30. */
    private static void seen() {
        LedgerHounds x = new LedgerHounds();
        int[][] wrong = {{25, 0, 0}, {-1, 0, 0}, {0, 100, 0}, {0, -1, 0}, {0, 0, 26}, {0, 0, -1}};
        for (int[] w : wrong) {
            Due.is("seen wrongly", x.seen(w[0], w[1], w[2]), -1);
        }
        for (int i = 1; i <= 8; i++) {
            Due.is("seen", x.seen(24, 99, 25), i);
        }
        Due.is("a ninth", x.seen(0, 0, 0), -5);
        Due.is("status", x.status(), -5);
        Due.is("a wrong ninth", x.seen(0, 0, 26), -1);
        Due.is("count(2)", x.count(2), 8);
    }

    /** Promise 31. */
    private static void fits() {
        LedgerHounds x = new LedgerHounds();
        Due.is("no laws", x.fits(), 0);
        String[] laws = {"leads 1", "leads 2", "leads 2; bites if column = 1", "leads entry", "leads 0"};
        for (String law : laws) {
            Due.law(x, law);
        }
        Due.is("nothing seen", x.fits(), 31);
        x.seen(0, 1, 1);
        Due.is("one step on", x.fits(), 6);
        x.seen(0, 5, 25);
        Due.is("out", x.fits(), 2);
        x.seen(7, 0, 8);
        Due.is("none", x.fits(), 0);
        x.forget();
        x.seen(7, 0, 7);
        Due.is("no step", x.fits(), 31);
        x.enter(7, 2);
        x.seen(7, 1, 8);
        Due.is("by the ledger as it is now", x.fits(), 14);
        x.fence(8);
        Due.is("by the fences as they are now", x.fits(), 0);
        x.force(1);
        Due.is("the law in force does not matter", x.fits(), 0);
    }

    /** Promise 32. */
    private static void next() {
        LedgerHounds x = new LedgerHounds();
        Due.is("no laws", x.next(1, 0), -1);
        Due.law(x, "leads 1");
        Due.is("one law", x.next(5, 0) * 10 + x.next(5, 1), 1);
        Due.law(x, "leads 1 if cell > 0; leads 2 if cell = 0");
        Due.law(x, "leads 1; leads 4 if cell = 3");
        Due.law(x, "leads 1; leads 3 if cell = 3; leads 2 if cell = 0");
        Due.is("two and two", x.next(1, 0), 0);
        Due.is("two and two", x.next(1, 1), 2);
        Due.law(x, "leads 1; leads 4 if cell = 3; leads 2 if cell = 0");
        Due.is("of five, at 3: 2, 1, 2", x.next(1, 0), 3);
        Due.is("of five, at 3: 2, 1, 2", x.next(1, 1), 2);
        Due.is("no steps", x.next(0, 0), 0);
        Due.is("no steps", x.next(0, 1), 5);
        x.seen(3, 1, 2);
        Due.is("only those that fit", x.next(1, 0) * 10 + x.next(1, 1), 1);
        x.seen(3, 1, 3);
        Due.is("none fits", x.next(1, 0), -1);
        Due.is("none fits", x.next(1, 1), -1);
        x.forget();
        Due.is("wrong", x.next(-1, 0) + x.next(100, 0) + x.next(1, 2) + x.next(1, -1), -4);
        Due.is("99 steps", x.next(99, 1), 5);
    }
}
