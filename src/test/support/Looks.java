import java.util.LinkedHashMap;
import java.util.Map;

/** Asks an object all that can be asked of it, so that two of them can be held side by side. */
final class Looks {
    private final LedgerHounds x;
    private final Map<String, Long> answers = new LinkedHashMap<>();

    private Looks(LedgerHounds x) {
        this.x = x;
    }

    /** What leaves the object as it was; neither status() nor how many calls were REFUSED. Some 250 calls. */
    static Map<String, Long> at(LedgerHounds x) {
        Looks looks = new Looks(x);
        looks.ledger();
        looks.hounds();
        looks.payments();
        looks.rest();
        return looks.answers;
    }

    /** What can be seen only by changing it: what can be undone, what the TAPE has, IMAGE 0. Some 90 calls. */
    static Map<String, Long> behind(LedgerHounds x) {
        Looks looks = new Looks(x);
        for (int i = 0; i < 4; i++) {
            looks.put("undo " + i, x.undo());
        }
        looks.put("row", x.row());
        looks.put("smudges", x.smudges());
        looks.entries("behind row()");
        looks.put("back", x.back(0));
        looks.entries("behind back()");
        for (int i = 0; i < 16; i++) {
            looks.put("behind back() count " + i, i > 6 && i < 12 ? 0 : x.count(i));
        }
        return looks.answers;
    }

    /** Both have the same, but for what is named. */
    static void alike(String when, Map<String, Long> got, Map<String, Long> want, String but) {
        for (String name : want.keySet()) {
            if (!(" " + but + " ").contains(" " + name + " ")) {
                Due.is(when + ": " + name, got.get(name), want.get(name));
            }
        }
    }

    private void put(String name, long answer) {
        answers.put(name, answer);
    }

    private void entries(String when) {
        for (int c = 0; c < 25; c++) {
            put(when + " at " + c, x.at(c, 0));
        }
    }

    private void ledger() {
        for (int c = 0; c < 25; c++) {
            for (int what = 0; what < 4; what++) {
                put("at " + c + " " + what, x.at(c, what));
            }
        }
        for (int i = 0; i < 10; i++) {
            put("off " + i / 5 + " " + i % 5, x.off(i / 5, i % 5));
            put("of " + i / 2 + " " + i % 2, x.of(i / 2, i % 2));
            put("asks " + i / 2 + " 7 " + i % 2, x.asks(i / 2, 7, i % 2));
        }
        put("fewest", x.fewest());
        put("turned", x.turned(-1));
    }

    private void hounds() {
        for (int c = 0; c < 25; c += 8) {
            put("hound " + c, x.hound(c, 3));
            put("ring " + c, x.ring(c, 0));
            put("sources " + c, x.sources(c));
        }
        put("casts", x.casts(1));
        put("fits", x.fits());
        put("next", x.next(1, 0));
        put("left", x.next(1, 1));
    }

    private void payments() {
        for (int i = 0; i < 25; i++) {
            put("through " + i / 5 + " " + i % 5, x.through(i / 5, i % 5, 0));
        }
        put("settled", x.settled());
        put("few", x.few(2, 9));
    }

    private void rest() {
        for (int c = 0; c < 25; c++) {
            put("drawn " + c, x.drawn(c, 0));
        }
        for (int c = 0; c < 5; c++) {
            put("drawn hand " + c, x.drawn(c, 1));
        }
        put("smudges", x.smudges());
        put("fault", x.fault());
        put("stopped", x.stopped());
        for (int i = 0; i < 16; i++) {
            put("count " + i, i > 6 && i < 12 ? 0 : x.count(i));
        }
    }
}
