import java.util.Map;
import java.util.function.Consumer;

/** IMAGES, count() and status() at their edges: Term IV, promises 40 to 43. */
public final class ImageEdgesTest {
    private ImageEdgesTest() {
    }

    public static void main(String[] args) {
        notKept();
        emptyImage();
        fullImage();
        eachPart();
        imagesStay();
        twoImages();
        othersOfTheSameNumber();
        keptAnew();
        notOfTheImage();
        nothingUndone();
        lawsBehindBack();
        refusalsStay();
        countsAtFirst();
        countsAtMost();
        statusOfEach();
        Due.end("ImageEdgesTest");
    }

    /** As much as there can be of all that IMAGES keep. */
    private static void fill(LedgerHounds x) {
        for (int c = 0; c < 25; c++) {
            x.enter(c, 999 - c);
        }
        for (int i = 0; i < 5; i++) {
            x.told(0, i, 9999 - i);
            x.told(1, i, 9990 - i);
            x.clerk(9 - i);
        }
        for (int i = 0; i < 6; i++) {
            Due.law(x, "leads " + (i + 1) % 5 + "; takes 9");
        }
        x.force(5);
        for (int i = 0; i < 5; i++) {
            x.take(20 + i, i);
        }
        for (int i = 0; i < 8; i++) {
            x.seen(24 - i, 0, 24 - i);
        }
        for (int i = 0; i < 10; i++) {
            x.booked(i % 5, (i + 1 + i / 5) % 5, 999 - i);
        }
        x.terms(0, 999);
        x.terms(1, 10);
        x.terms(2, 9);
        for (int c = 0; c < 25; c += 4) {
            x.fence(c);
        }
    }

    private static Map<String, Long> looksOf(LedgerHounds x) {
        Map<String, Long> looks = Looks.at(x);
        looks.put("few 20 99", x.few(20, 99));
        return looks;
    }

    /** "-2 it was not kept": each by itself. */
    private static void notKept() {
        LedgerHounds x = new LedgerHounds();
        Due.is("back(0)", x.back(0), -2);
        Due.is("back(1)", x.back(1), -2);
        Due.is("image(0)", x.image(0), 0);
        Due.is("back(1)", x.back(1), -2);
        Due.is("back(0)", x.back(0), 0);
        Due.is("status", x.status(), 0);
        LedgerHounds y = new LedgerHounds();
        Due.is("image(1)", y.image(1), 0);
        Due.is("back(0)", y.back(0), -2);
        Due.is("back(1)", y.back(1), 0);
        Due.is("REFUSED by -2", y.count(8), 1);
    }

    /** BACK from all that there can be to nothing. */
    private static void emptyImage() {
        LedgerHounds x = new LedgerHounds();
        x.image(1);
        fill(x);
        Due.is("back to nothing", x.back(1), 0);
        Looks.alike("as a new one", looksOf(x), looksOf(new LedgerHounds()), "");
        Due.is("room for CLERK 0", x.clerk(4), 0);
        Due.is("with nothing in HAND", x.of(0, 1), 0);
        Due.is("room for LAW 0", Due.law(x, "bites"), 0);
        Due.is("room for SEEN", x.seen(0, 0, 0), 1);
        Due.is("room for BOOKED", x.booked(0, 1, 1), 1);
    }

    /** BACK from nothing to all that there can be. */
    private static void fullImage() {
        LedgerHounds x = new LedgerHounds();
        x.image(0);
        fill(x);
        x.image(1);
        x.back(0);
        Due.is("back to all", x.back(1), 0);
        LedgerHounds twin = new LedgerHounds();
        fill(twin);
        Looks.alike("all as it was", looksOf(x), looksOf(twin), "count 5");
        Due.is("no room for a CLERK", x.clerk(4), -5);
        Due.is("no room for a LAW", x.law(), -5);
        Due.is("no room for SEEN", x.seen(0, 0, 0), -5);
        Due.is("no room for BOOKED", x.booked(0, 1, 1), -5);
        Due.is("no DAY left", x.pass(), -3);
        Due.is("LAW 5 in FORCE", x.force(0), 5);
    }

    private static void part(String name, Consumer<LedgerHounds> change) {
        LedgerHounds x = new LedgerHounds();
        fill(x);
        x.image(0);
        Map<String, Long> was = looksOf(x);
        change.accept(x);
        Due.is("back behind " + name, x.back(0), 0);
        LedgerHounds twin = new LedgerHounds();
        fill(twin);
        Looks.alike("behind " + name, was, looksOf(twin), "");
        Looks.alike("back behind " + name, lessLooks(x), lessLooks(twin), "");
    }

    /** Fewer calls than looksOf(): an object is asked for 512 at most. */
    private static Map<String, Long> lessLooks(LedgerHounds x) {
        Map<String, Long> looks = new java.util.LinkedHashMap<>();
        int[] cells = {0, 1, 3, 20, 23, 24};
        for (int c : cells) {
            looks.put("at " + c, (long) x.at(c, 0) * 100 + x.at(c, 1) * 10 + x.at(c, 2));
        }
        int[] ends = {0, 4};
        for (int i : ends) {
            looks.put("sums " + i, (long) x.off(0, i) * 100000 + x.off(1, i));
            looks.put("clerk " + i, (long) x.of(i, 0) * 100000 + x.of(i, 1));
            looks.put("through " + i, (long) x.through(i, 4 - i, 0));
        }
        looks.put("fits", (long) x.fits());
        looks.put("settled", (long) x.settled());
        looks.put("few", x.few(20, 99));
        for (int i = 0; i < 16; i++) {
            looks.put("count " + i, (long) (i > 4 && i < 12 ? 0 : x.count(i)));
        }
        return looks;
    }

    /** "BACK to one all that it keeps is as it was then": each part, its first and its last. */
    private static void eachPart() {
        part("nothing", x -> { });
        part("the first ENTRY", x -> x.enter(0, 1));
        part("the last ENTRY", x -> x.enter(24, 1));
        part("the first ROW's sum", x -> x.told(0, 0, 1));
        part("the last COLUMN's sum", x -> x.told(1, 4, 1));
        part("the first FENCE", x -> x.fence(0));
        part("the last FENCE", x -> x.fence(24));
        part("a FENCE more", x -> x.fence(23));
        part("the first HAND", x -> x.take(0, 0));
        part("the last HAND", x -> x.take(3, 4));
        part("DAY", x -> x.terms(0, 1));
        part("SLIP", x -> x.terms(1, 1));
        part("MOOD", x -> x.terms(2, 1));
        part("FORCE", x -> x.force(-1));
        part("SEEN, BOOKED", x -> x.forget());
        part("another SEEN", x -> {
            x.forget();
            x.seen(24, 1, 3);
            x.booked(3, 1, 500);
        });
        part("ORDERS", x -> Due.orders(x, "take 20 by 0 times 9; shift 24 to 20 of 5; fence 1"));
        part("a ROW", x -> {
            Due.tape(x, Due.bytes(0, 0, 1, 24, 0, 1));
            x.row();
        });
    }

    /** "(IMAGES stay)". */
    private static void imagesStay() {
        LedgerHounds x = new LedgerHounds();
        x.enter(0, 1);
        x.image(0);
        for (int i = 0; i < 50; i++) {
            x.enter(0, 100 + i);
            Due.is("back(0)", x.back(0), 0);
            Due.is("as it was", x.at(0, 0), 1);
        }
        x.image(1);
        x.enter(0, 2);
        x.image(0);
        x.back(1);
        Due.is("IMAGE 1", x.at(0, 0), 1);
        x.back(0);
        Due.is("IMAGE 0", x.at(0, 0), 2);
        x.back(1);
        Due.is("IMAGE 1 again", x.at(0, 0), 1);
    }

    /** "IMAGES 0, 1": the one is not the other one. */
    private static void twoImages() {
        LedgerHounds x = new LedgerHounds();
        x.image(0);
        x.clerk(7);
        x.fence(3);
        x.image(1);
        x.clerk(8);
        x.back(0);
        Due.is("IMAGE 0: no CLERK, no FENCE", x.count(0) * 10 + x.count(1), 0);
        x.back(1);
        Due.is("IMAGE 1: one of each", x.count(0) * 10 + x.count(1), 11);
        Due.is("KEEN", x.of(0, 0), 7);
        Due.is("the next CLERK", x.clerk(2), 1);
        Due.is("KEEN", x.of(1, 0), 2);
    }

    private static void keptAnew() {
        LedgerHounds x = new LedgerHounds();
        for (int i = 1; i <= 20; i++) {
            x.enter(24, i);
            Due.is("image(0)", x.image(0), 0);
        }
        x.enter(24, 99);
        x.back(0);
        Due.is("the latest that was kept", x.at(24, 0), 20);
        Due.is("REFUSED", x.enter(24, 55) + x.image(2), 19);
        x.back(0);
        Due.is("a REFUSED one keeps nothing", x.at(24, 0), 20);
    }

    /** "all but the TAPE, FAULT, SMUDGES, where ORDERS stopped, ... the latest WEEKS": these are as they are. */
    private static void notOfTheImage() {
        LedgerHounds x = new LedgerHounds();
        x.clerk(1);
        x.enter(16, 50);
        x.image(0);
        Due.tape(x, Due.bytes(1, 2));
        x.row();
        Due.orders(x, "pass; pass; fence 25");
        Due.law(x, "leads 1 1");
        x.weeks(0, 1);
        Due.tape(x, "leads 3");
        x.back(0);
        Due.is("SMUDGES", x.smudges(), 1);
        Due.is("where ORDERS stopped", x.stopped(), 2);
        Due.is("FAULT", x.fault(), 8);
        Due.is("the latest WEEKS", x.drawn(16, 0) * 100 + x.drawn(0, 1), 4010);
        Due.is("the TAPE", x.count(6), 7);
        Due.is("the TAPE is a LAW", x.law(), 0);
        x.force(0);
        Due.is("the TAPE's own", x.at(0, 2), 3);
        LedgerHounds y = new LedgerHounds();
        y.feed(0, 0, 0, 0, 0);
        Due.law(y, "x");
        y.image(1);
        y.end(0);
        Due.law(y, "bites");
        y.back(1);
        Due.is("an empty TAPE stays empty", y.count(6), 0);
        Due.is("no FAULT stays none", y.fault(), -1);
    }

    /** "what can be undone (nothing, behind back())". */
    private static void nothingUndone() {
        LedgerHounds x = new LedgerHounds();
        x.pass();
        x.image(0);
        Due.is("image() takes nothing of it", x.count(5), 1);
        x.fence(1);
        x.back(0);
        Due.is("nothing", x.count(5), 0);
        Due.is("nothing", x.undo(), -3);
        Due.is("DAY as it was then", x.count(13), 1);
        x.pass();
        Due.is("REFUSED", x.back(1), -2);
        Due.is("a REFUSED one takes nothing of it", x.count(5), 1);
        Due.is("REFUSED", x.back(2), -1);
        Due.is("undo", x.undo(), 3);
    }

    /** A LAW that came behind an IMAGE is none behind back(); its number is given anew. */
    private static void lawsBehindBack() {
        LedgerHounds x = new LedgerHounds();
        for (int i = 0; i < 5; i++) {
            Due.law(x, "leads 1");
        }
        x.image(0);
        Due.is("LAW 5", Due.law(x, "leads 3"), 5);
        x.force(5);
        x.back(0);
        Due.is("NONE in FORCE", x.count(12), -1);
        Due.is("no LAW 5", x.force(5), -2);
        Due.is("five FIT", x.fits(), 31);
        Due.is("LAW 5 anew", Due.law(x, "leads 4"), 5);
        x.force(5);
        Due.is("the new one", x.at(0, 2), 4);
        Due.is("six FIT", x.fits(), 63);
    }

    /** "how many calls were REFUSED ... (IMAGES do not keep that)". */
    private static void refusalsStay() {
        LedgerHounds x = new LedgerHounds();
        x.image(0);
        x.enter(25, 0);
        x.force(0);
        x.pass();
        x.undo();
        x.undo();
        for (int i = 0; i < 6; i++) {
            x.clerk(1);
        }
        x.row();
        x.back(0);
        for (int i = 7; i <= 11; i++) {
            Due.is("count(" + i + ")", x.count(i), 1);
        }
        Due.is("status of back()", x.status(), 0);
    }

    private static void countsAtFirst() {
        int[] due = {0, 0, 0, 0, 0, 0, 0, 0, 0, 0, 0, 0, -1, 0, 1, 0};
        LedgerHounds x = new LedgerHounds();
        for (int i = 0; i < 16; i++) {
            Due.is("count(" + i + ")", x.count(i), due[i]);
        }
        Due.is("status()", x.status(), 0);
        Due.is("count(16)", x.count(16), -1);
        Due.is("count(-1)", x.count(-1), -1);
        Due.is("NONE is not REFUSED", x.count(7), 0);
    }

    private static void countsAtMost() {
        LedgerHounds x = new LedgerHounds();
        fill(x);
        for (int c = 0; c < 25; c++) {
            if (c % 4 != 0) {
                x.fence(c);
            }
        }
        for (int i = 0; i < 20; i++) {
            x.feed(0, 0, 0, 0, 0);
        }
        int[] due = {5, 25, 8, 10, 6, 16, 400, 0, 0, 0, 0, 0, 5, 999, 10, 9};
        for (int i = 0; i < 16; i++) {
            Due.is("count(" + i + ")", x.count(i), due[i]);
        }
    }

    /** "What the latest call of ... was REFUSED by; 0 if it was not": one call behind the other. */
    private static void statusOfEach() {
        LedgerHounds x = new LedgerHounds();
        int[] told = {x.clerk(10), x.status(), x.clerk(1), x.status(), x.take(0, 1), x.status(), x.enter(0, 20), x.status(),
            x.take(1, 0), x.status(), x.take(0, 0), x.status(), x.row(), x.status(), x.told(0, 0, 1), x.status(), x.back(0), x.status(),
            x.image(0), x.status(), x.back(0), x.status(), x.undo(), x.status(), x.pass(), x.status(), x.undo(), x.status(),
            x.force(0), x.status(), x.force(-1), x.status(), x.seen(0, 0, 26), x.status(), x.seen(0, 0, 25), x.status(),
            x.booked(0, 0, 1), x.status(), x.booked(0, 1, 1), x.status(), x.weeks(0, 0), x.status(), x.weeks(0, 1), x.status(),
            x.shift(0, 0, 1), x.status(), x.shift(0, 1, 1), x.status(), x.fence(25), x.status(), x.fence(24), x.status(),
            x.terms(3, 0), x.status(), x.terms(2, 3), x.status(), x.law(), x.status(), x.orders(), x.status()};
        int[] due = {-1, 0, -2, 0, -3, 0, -6, 0, -2, 0, 0, -3, 0, 0, -2, 0, -1, 0, -1, 0, -1, 0, -1, 0, -1, 0, -1, 0, -6, -6};
        for (int i = 0; i < due.length; i++) {
            Due.is("status() behind call " + i, told[2 * i + 1], due[i]);
        }
        Due.law(x, "bites");
        Due.is("law()", x.status(), 0);
        Due.orders(x, "fence 25");
        Due.is("orders() that can't be", x.status(), -3);
        x.feed(0, 0, 0, 0, 0);
        x.end(0);
        x.forget();
        Due.is("feed(), end(), forget() are none of these", x.status(), -3);
        Due.orders(x, "pass");
        Due.is("orders()", x.status(), 0);
    }

    /** "all that it keeps is as it was then": CLERKS, LAWS, SEEN, BOOKED that others of the same number came for since. */
    private static void othersOfTheSameNumber() {
        LedgerHounds x = new LedgerHounds();
        x.image(1);
        fill(x);
        Map<String, Long> due = looksOf(x);
        LedgerHounds y = new LedgerHounds();
        y.image(1);
        fill(y);
        y.image(0);
        y.back(1);
        for (int i = 0; i < 6; i++) {
            y.clerk(i);
            Due.law(y, "leads 0; takes 98; bites; bars if cell > 3");
        }
        for (int i = 0; i < 10; i++) {
            y.seen(i, 99, 25);
            y.booked(4, 2, 1 + i);
        }
        Due.is("a CLERK of the other ones", y.of(4, 0), 4);
        Due.is("a LAW of the other ones", y.force(5), -1);
        Due.is("a LAW of the other ones", y.at(24, 3), 1);
        Due.is("back", y.back(0), 0);
        for (int i = 0; i < 5; i++) {
            Due.is("KEEN of CLERK " + i, y.of(i, 0), 9 - i);
        }
        for (int i = 0; i < 6; i++) {
            y.force(i);
            Due.is("LAW " + i, y.at(24, 2) * 100 + y.asks(4, 24, 0), (i + 1) % 5 * 100 + 9);
        }
        Looks.alike("behind others", looksOf(y), due, "count 5");
    }
}
