import java.util.function.ToLongFunction;

/** "An object is used for at most 512 calls": the 512th answers as it would have early, whatever the 511 ahead of it were. */
public final class LastCallTest {
    private static final int CALLS = 512;
    private static final int RICH = 72;

    private LastCallTest() {
    }

    public static void main(String[] args) {
        eachAsTheLast();
        refusedAllAlong();
        dearestAllAlong();
        daysAllAlong();
        textsAllAlong();
        imagesAllAlong();
        Due.end("LastCallTest");
    }

    /** Made by as many calls as RICH tells. */
    private static LedgerHounds rich() {
        LedgerHounds x = new LedgerHounds();
        for (int c = 0; c < 25; c++) {
            x.enter(c, 40 + c);
        }
        for (int i = 0; i < 5; i++) {
            x.told(0, i, 220 + i);
            x.told(1, i, 230 - i);
            x.seen(i, 0, i);
            x.booked(i, (i + 1) % 5, 10 + i);
        }
        for (int i = 0; i < 4; i++) {
            x.clerk(i);
        }
        for (int i = 0; i < 5; i++) {
            x.feed(0x6c656164, 0x73203020 + i * 256, 0x2020203b, 0x20626974, 0x65732020);
            x.end(18);
            x.law();
        }
        x.force(3);
        x.weeks(3, 9);
        x.image(0);
        x.enter(3, 7);
        x.pass();
        x.fence(6);
        x.feed(0x70617373, 0x3b706173, 0x73202020, 0x20202020, 0x20202020);
        x.end(9);
        return x;
    }

    private static void asTheLast(String call, ToLongFunction<LedgerHounds> made) {
        LedgerHounds early = rich();
        LedgerHounds late = rich();
        for (int i = RICH; i < CALLS - 1; i++) {
            late.count(i % 16);
        }
        Due.is("512th: " + call, made.applyAsLong(late), made.applyAsLong(early));
    }

    private static void eachAsTheLast() {
        asTheLast("enter", x -> x.enter(3, 999));
        asTheLast("at", x -> x.at(24, 2));
        asTheLast("told", x -> x.told(1, 4, 9));
        asTheLast("off", x -> x.off(1, 4));
        asTheLast("clerk", x -> x.clerk(9));
        asTheLast("of", x -> x.of(3, 0));
        asTheLast("asks", x -> x.asks(3, 9, 0));
        asTheLast("terms", x -> x.terms(1, 4));
        asTheLast("feed", x -> x.feed(1, 2, 3, 4, 5));
        asTheLast("end", x -> x.end(8));
        asTheLast("row", x -> x.row());
        asTheLast("smudges", x -> x.smudges());
        asTheLast("law", x -> x.law());
        asTheLast("orders", x -> x.orders());
        asTheLast("fault", x -> x.fault());
        asTheLast("stopped", x -> x.stopped());
        asTheLast("force", x -> x.force(4));
        asTheLast("take", x -> x.take(3, 2));
        asTheLast("shift", x -> x.shift(4, 3, 5));
        asTheLast("fence", x -> x.fence(6));
        asTheLast("pass", x -> x.pass());
        asTheLast("undo", x -> x.undo());
        asTheLast("fewest", x -> x.fewest());
        asTheLast("turned", x -> x.turned(-1));
        asTheLast("hound", x -> x.hound(13, 99));
        asTheLast("ring", x -> x.ring(13, 0));
        asTheLast("sources", x -> x.sources(3));
        asTheLast("casts", x -> x.casts(1));
        asTheLast("seen", x -> x.seen(0, 0, 0));
        asTheLast("fits", x -> x.fits());
        asTheLast("next", x -> x.next(2, 0));
        asTheLast("booked", x -> x.booked(0, 1, 2));
        asTheLast("through", x -> x.through(0, 4, 0));
        asTheLast("settled", x -> x.settled());
        asTheLast("forget", x -> x.forget());
        asTheLast("few", x -> x.few(20, 99));
        asTheLast("weeks", x -> x.weeks(9, 60));
        asTheLast("drawn", x -> x.drawn(3, 1));
        asTheLast("image", x -> x.image(1));
        asTheLast("back", x -> x.back(0));
        asTheLast("count", x -> x.count(4));
        asTheLast("status", x -> x.status());
        Due.is("what stands there: orders", rich().orders(), 2);
        Due.is("what stands there: undo", rich().undo(), 2);
        Due.is("what stands there: laws", rich().count(4), 5);
    }

    private static void refusedAllAlong() {
        LedgerHounds x = new LedgerHounds();
        for (int i = 1; i < CALLS; i++) {
            x.enter(25, 0);
        }
        Due.is("511 REFUSED by -1", x.count(7), 511);
        LedgerHounds y = new LedgerHounds();
        for (int i = 1; i < CALLS; i++) {
            y.row();
        }
        Due.is("511 REFUSED by -6", y.count(11), 511);
    }

    /** Long TEXTS, six LAWS: each call that asks all LAWS of all CELLS answers the same all along. */
    private static void dearestAllAlong() {
        String law = "leads 2" + "+1*1".repeat(22) + "-[[[[[[[[24]]]]]]]]; leads cell % 5 if not (not (cell < 26))";
        LedgerHounds x = new LedgerHounds();
        for (int i = 0; i < 6; i++) {
            Due.is("LAW " + i, Due.law(x, law.replace("% 5", "% " + (i + 1))), i);
        }
        int next = x.next(99, 0);
        for (int i = 0; i < 400; i++) {
            Due.is("next", x.next(99, 0), next);
        }
        Due.is("fits", x.fits(), 63);
    }

    /** 512 DAYS, one each call. */
    private static void daysAllAlong() {
        LedgerHounds x = new LedgerHounds();
        for (int i = 1; i <= CALLS; i++) {
            Due.is("pass", x.pass(), i);
        }
        LedgerHounds y = new LedgerHounds();
        for (int i = 1; i < CALLS; i++) {
            y.fence(i % 25);
        }
        Due.is("the 512th is undone", y.undo(), 2);
        LedgerHounds z = new LedgerHounds();
        z.clerk(0);
        for (int i = 2; i < CALLS; i++) {
            z.weeks(i, 60);
        }
        Due.is("of nothing", z.weeks(0, 60), 0);
    }

    /** Each back() is to the IMAGE kept one round ahead, so that the last has what the odd rounds entered. */
    private static void imagesAllAlong() {
        LedgerHounds x = new LedgerHounds();
        for (int i = 1; i <= 170; i++) {
            x.enter(i % 25, i);
            x.image(i % 2);
            x.back((i + 1) % 2);
        }
        Due.is("511th", x.image(0), 0);
        Due.is("512th", x.at(0, 0), 125);
    }

    /** A TEXT every other call; each is read as the first was. */
    private static void textsAllAlong() {
        LedgerHounds x = new LedgerHounds();
        for (int i = 1; i <= CALLS / 2; i++) {
            // "fence 2*3+1 times 20"
            x.feed(0x66656e63, 0x6520322a, 0x332b3120, 0x74696d65, 0x73203230);
            Due.is("TEXT " + i, x.orders(), 20);
        }
        LedgerHounds y = new LedgerHounds();
        for (int i = 1; i <= 170; i++) {
            // "fence 2*3+1 times 2x", which is no TEXT
            y.feed(0x66656e63, 0x6520322a, 0x332b3120, 0x74696d65, 0x73203278);
            Due.is("TEXT " + i, y.orders(), -6);
            Due.is("FAULT " + i, y.fault(), 19);
        }
    }
}
