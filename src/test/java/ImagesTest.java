/** Images, counts, status: promises 40 to 43. */
public final class ImagesTest {
    private ImagesTest() {
    }

    public static void main(String[] args) {
        wrong();
        keeps();
        keepsAllRows();
        keepsNot();
        laws();
        count();
        status();
        Due.end("ImagesTest");
    }

    private static void wrong() {
        LedgerHounds x = new LedgerHounds();
        int[] ks = {-1, 2, Integer.MIN_VALUE, Integer.MAX_VALUE};
        for (int k : ks) {
            Due.is("image wrongly", x.image(k), -1);
            Due.is("back wrongly", x.back(k), -1);
        }
        Due.is("not kept", x.back(0), -2);
        Due.is("not kept", x.back(1), -2);
        Due.is("image(1)", x.image(1), 0);
        Due.is("not kept", x.back(0), -2);
        Due.is("back(1)", x.back(1), 0);
    }

    private static void fill(LedgerHounds x, int n) {
        for (int c = 0; c < 25; c++) {
            x.enter(c, n + c);
        }
        for (int i = 0; i < 10; i++) {
            x.told(i / 5, i % 5, n + i);
        }
        x.terms(0, n);
        x.terms(1, n % 10);
        x.terms(2, n % 10);
        x.clerk(n % 10);
        Due.law(x, "leads " + n % 4);
        x.force(x.count(4) - 1);
        x.take(3, 0);
        x.fence(n);
        x.seen(n, n, n);
        x.booked(0, n % 4 + 1, n);
    }

    private static long print(LedgerHounds x) {
        long sum = 0;
        for (int c = 0; c < 25; c++) {
            for (int what = 0; what < 4; what++) {
                sum = sum * 31 + x.at(c, what);
            }
        }
        for (int i = 0; i < 10; i++) {
            sum = sum * 31 + x.off(i / 5, i % 5);
            sum = sum * 31 + x.of(i / 2, i % 2);
            sum = sum * 31 + x.through(i / 5, 2 + i % 3, i % 2);
        }
        for (int i = 0; i < 16; i++) {
            sum = sum * 31 + (i < 5 || i > 11 ? x.count(i) : 0);
        }
        return sum * 31 * 31 + x.fits() * 31 + x.settled();
    }

    /** What an object shows that was filled with each of these. */
    private static long printOf(int... fills) {
        LedgerHounds x = new LedgerHounds();
        for (int n : fills) {
            fill(x, n);
        }
        return print(x);
    }

    /** IMAGE 1 of nothing, IMAGE 0 behind the first filling, then a second filling. */
    private static LedgerHounds filledTwice() {
        LedgerHounds x = new LedgerHounds();
        x.image(1);
        fill(x, 7);
        x.image(0);
        fill(x, 13);
        return x;
    }

    /** Promises 40 and 41; an object of its own for each, since an object is used for 512 calls. */
    private static void keeps() {
        long empty = printOf();
        long first = printOf(7);
        long second = printOf(7, 13);
        Due.holds("unlike", empty != first && first != second);
        LedgerHounds x = filledTwice();
        Due.is("back(0)", x.back(0), 0);
        Due.is("as it was", print(x), first);
        fill(x, 13);
        Due.is("the same again", print(x), second);
        x = filledTwice();
        Due.is("back(1)", x.back(1), 0);
        Due.is("empty", print(x), empty);
        Due.is("back(0), the images stay", x.back(0), 0);
        Due.is("as it was", print(x), first);
        x = filledTwice();
        x.image(0);
        x.back(1);
        x.back(0);
        Due.is("kept anew", print(x), second);
        x.enter(4, 1);
        x.back(0);
        Due.is("an image is not the ledger", print(x), second);
    }

    /** The last of each row that is kept counts as much as the first. */
    private static void keepsAllRows() {
        LedgerHounds x = Due.under("leads 1");
        for (int i = 0; i < 10; i++) {
            x.booked(i % 4, i % 4 + 1, 100 + i);
        }
        for (int i = 0; i < 8; i++) {
            x.seen(i, 1, i + 5);
        }
        for (int i = 0; i < 5; i++) {
            x.clerk(i);
        }
        long kept = print(x);
        int fits = x.fits();
        int flow = x.through(1, 2, 0);
        x.image(0);
        x.forget();
        for (int i = 0; i < 10; i++) {
            x.booked(4, 0, 999);
        }
        for (int i = 0; i < 8; i++) {
            x.seen(24, 99, 3);
        }
        Due.is("nothing fits", x.fits(), 0);
        x.back(0);
        Due.is("as it was", print(x), kept);
        Due.is("fits", x.fits(), fits);
        Due.is("flow", x.through(1, 2, 0), flow);
        Due.is("flow", x.through(1, 2, 0), 101 + 105 + 109);
        Due.is("fits", x.fits(), 1);
    }

    private static void keepsNot() {
        LedgerHounds x = new LedgerHounds();
        x.clerk(1);
        x.enter(0, 50);
        x.pass();
        x.image(0);
        Due.is("image() lets be what can be undone", x.count(5), 1);
        Due.orders(x, "fence 25");
        Due.orders(x, "pass; fence 25");
        Due.tape(x, "abcdefg");
        x.row();
        Due.law(x, "leads 1 !");
        Due.tape(x, "leads 3");
        x.weeks(5, 9);
        int drawn = x.drawn(0, 0);
        int wrong = x.count(9) * 100 + x.count(11);
        x.fence(3);
        x.back(0);
        Due.is("what can be undone", x.count(5), 0);
        Due.is("undo", x.undo(), -3);
        Due.is("the tape", x.count(6), 7);
        Due.is("fault", x.fault(), 8);
        Due.is("stopped", x.stopped(), 1);
        Due.is("smudges", x.smudges(), 3);
        Due.is("drawn", x.drawn(0, 0), drawn);
        Due.is("refusals", x.count(9) * 100 + x.count(11), wrong + 100);
        Due.is("the tape is read", x.law(), 0);
        x.clerk(2);
        x.weeks(5, 9);
        x.image(1);
        LedgerHounds y = new LedgerHounds();
        y.image(0);
        y.clerk(3);
        y.weeks(1, 1);
        y.back(0);
        Due.is("the latest weeks had a clerk", y.drawn(0, 1), 0);
        Due.is("no clerk now", y.weeks(1, 1), -3);
        y.pass();
        y.back(1);
        Due.is("a REFUSED back() lets be what can be undone", y.count(5), 1);
    }

    /** An image has its own laws, also where another text got the same number since. */
    private static void laws() {
        LedgerHounds x = new LedgerHounds();
        Due.law(x, "leads 0");
        x.image(1);
        Due.law(x, "leads 1");
        x.force(1);
        x.image(0);
        x.back(1);
        Due.is("laws", x.count(4), 1);
        Due.is("force", x.count(12), -1);
        Due.is("force(1)", x.force(1), -2);
        Due.is("law", Due.law(x, "leads 3"), 1);
        x.force(1);
        Due.is("the new one", x.at(12, 2), 3);
        x.back(0);
        Due.is("the old one", x.at(12, 2), 1);
        Due.is("force", x.count(12), 1);
    }

    /** Promise 42. */
    private static void count() {
        LedgerHounds x = new LedgerHounds();
        x.clerk(1);
        x.clerk(2);
        x.terms(0, 3);
        x.terms(1, 4);
        x.terms(2, 5);
        for (int i = 0; i < 3; i++) {
            x.fence(i);
        }
        for (int i = 0; i < 4; i++) {
            x.seen(0, 0, 0);
        }
        for (int i = 0; i < 5; i++) {
            x.booked(0, 1, 1);
        }
        for (int i = 0; i < 6; i++) {
            Due.law(x, "bites");
        }
        x.force(4);
        x.enter(-1, 0);
        x.told(-1, 0, 0);
        x.image(9);
        x.force(9);
        x.force(8);
        x.back(0);
        x.back(1);
        for (int i = 0; i < 5; i++) {
            x.take(20, 0);
        }
        x.law();
        x.law();
        x.law();
        x.orders();
        x.row();
        x.feed(1, 2, 3, 4, 5);
        x.end(13);
        int[] due = {2, 3, 4, 5, 6, 3, 13, 3, 4, 5, 3, 2, 4, 3, 4, 5, -1};
        for (int i = 0; i < due.length; i++) {
            Due.is("count(" + i + ")", x.count(i), due[i]);
        }
        Due.is("others", x.count(-1) + x.count(Integer.MIN_VALUE) + x.count(Integer.MAX_VALUE), -3);
    }

    /** Promise 43. */
    private static void status() {
        for (int i = 0; i < 18; i++) {
            LedgerHounds x = new LedgerHounds();
            x.enter(-1, 0);
            int[] good = {x.at(0, 0), x.off(0, 0), x.of(0, 0), x.asks(0, 0, 0), x.feed(0, 0, 0, 0, 0), x.end(0), x.smudges(), x.fault(),
                x.stopped(), x.fewest(), x.turned(0), x.hound(0, 0), x.ring(0, 0), x.sources(0), x.casts(0), x.fits(), x.next(0, 0),
                x.through(0, 1, 0), x.settled(), x.forget(), (int) x.few(1, 1), x.drawn(0, 0), x.count(0)};
            Due.is("the others leave it (" + good.length + ")", x.status(), -1);
            statusOf(i);
        }
    }

    private static void statusOf(int i) {
        int[] due = {-1, -1, -1, -1, -6, -6, -6, -2, -2, -3, -1, -3, -3, -1, -1, -3, -1, -2};
        LedgerHounds x = new LedgerHounds();
        x.terms(0, 999);
        Due.is("status of call " + i, refuse(x, i), due[i]);
        Due.is("status() of call " + i, x.status(), due[i]);
        LedgerHounds y = new LedgerHounds();
        y.image(0);
        y.fence(-1);
        Due.is("status", y.status(), -1);
        grant(y, i);
        Due.is("status() of good call " + i, y.status(), 0);
    }

    private static int refuse(LedgerHounds x, int i) {
        switch (i) {
            case 0: return x.enter(0, 1000);
            case 1: return x.told(0, 0, -1);
            case 2: return x.clerk(11);
            case 3: return x.terms(3, 0);
            case 4: return x.row();
            case 5: return x.law();
            case 6: return x.orders();
            case 7: return x.force(0);
            case 8: return x.take(0, 0);
            case 9: return x.shift(0, 1, 1);
            case 10: return x.fence(25);
            case 11: return x.pass();
            case 12: return x.undo();
            case 13: return x.seen(0, 0, 99);
            case 14: return x.booked(0, 0, 1);
            case 15: return x.weeks(1, 1);
            case 16: return x.image(2);
            default: return x.back(0);
        }
    }

    private static void grant(LedgerHounds x, int i) {
        x.clerk(1);
        x.enter(0, 50);
        x.pass();
        Due.tape(x, "abc");
        x.fence(-1);
        switch (i) {
            case 0: x.enter(0, 100); break;
            case 1: x.told(0, 0, 1); break;
            case 2: x.clerk(1); break;
            case 3: x.terms(2, 0); break;
            case 4: x.row(); break;
            case 5: Due.law(x, "bites"); break;
            case 6: Due.orders(x, "pass"); break;
            case 7: x.force(-1); break;
            case 8: x.take(0, 0); break;
            case 9: x.shift(0, 1, 1); break;
            case 10: x.fence(24); break;
            case 11: x.pass(); break;
            case 12: x.undo(); break;
            case 13: x.seen(0, 0, 9); break;
            case 14: x.booked(0, 1, 1); break;
            case 15: x.weeks(1, 1); break;
            case 16: x.image(1); break;
            default: x.back(0); break;
        }
    }
}
