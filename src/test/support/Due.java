import java.util.function.IntToLongFunction;

/** Counts and prints the answers that are not as due; puts texts on a tape. */
final class Due {
    private static int wrong = 0;
    private static int asked = 0;

    private Due() {
    }

    static void is(String call, long got, long want) {
        asked++;
        if (got != want) {
            wrong++;
            if (wrong <= 40) {
                System.out.println(call + " answered " + got + ", due is " + want);
            }
        }
    }

    static void holds(String what, boolean so) {
        is(what, so ? 1 : 0, 1);
    }

    /** The last numbers that can be and the first that can't, on either side; the call is made on an object of its own each time. */
    static void range(String call, int least, int most, long refusal, IntToLongFunction answer) {
        for (int n : new int[] {Integer.MIN_VALUE, least - 1, most + 1, Integer.MAX_VALUE}) {
            is(call + " with " + n, answer.applyAsLong(n), refusal);
        }
        for (int n : new int[] {least, most}) {
            holds(call + " with " + n + " can be", answer.applyAsLong(n) != refusal);
        }
    }

    /** A row of bytes as a text. */
    static String bytes(int... row) {
        StringBuilder text = new StringBuilder();
        for (int b : row) {
            text.append((char) b);
        }
        return text.toString();
    }

    static boolean allWell() {
        return wrong == 0;
    }

    /** Ends the test: exit code 1 if one answer was not as due. */
    static void end(String test) {
        System.out.println(test + ": " + asked + " answers, " + wrong + " not as due");
        if (wrong != 0) {
            System.exit(1);
        }
    }

    /** The tape holds just this text (each sign a byte) then. */
    static void tape(LedgerHounds x, String text) {
        x.end(0);
        for (int i = 0; i < text.length(); i += 20) {
            int[] n = new int[5];
            for (int k = 0; k < 20; k++) {
                int b = i + k < text.length() ? text.charAt(i + k) & 255 : 0;
                n[k / 4] = n[k / 4] << 8 | b;
            }
            x.feed(n[0], n[1], n[2], n[3], n[4]);
        }
        x.end(text.length());
    }

    static int law(LedgerHounds x, String text) {
        tape(x, text);
        return x.law();
    }

    static int orders(LedgerHounds x, String text) {
        tape(x, text);
        return x.orders();
    }

    /** A new object with this one LAW in FORCE. */
    static LedgerHounds under(String law) {
        LedgerHounds x = new LedgerHounds();
        is("law " + law, law(x, law), 0);
        x.force(0);
        return x;
    }

    /** A law that must be refused, with its FAULT there. */
    static void lawFault(String text, int place) {
        LedgerHounds x = new LedgerHounds();
        is("law of '" + text + "'", law(x, text), -6);
        is("fault of law '" + text + "'", x.fault(), place);
        is("count(4) behind '" + text + "'", x.count(4), 0);
        is("count(6) behind '" + text + "'", x.count(6), 0);
        is("status behind '" + text + "'", x.status(), -6);
    }

    static void lawGood(String text) {
        LedgerHounds x = new LedgerHounds();
        is("law of '" + text + "'", law(x, text), 0);
        is("fault of law '" + text + "'", x.fault(), -1);
    }

    static void ordersFault(String text, int place) {
        LedgerHounds x = new LedgerHounds();
        is("orders of '" + text + "'", orders(x, text), -6);
        is("fault of orders '" + text + "'", x.fault(), place);
        is("stopped of orders '" + text + "'", x.stopped(), -1);
    }
}
