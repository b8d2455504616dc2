import java.util.Random;

/** Texts by draws: laws, orders, rows, some of them spoilt. */
final class Texts {
    private static final String[] LAW_WORDS = {"cell", "row", "column", "entry", "off", "across", "clerk", "keen", "day", "mood"};
    private final Random random;
    private final boolean law;
    private int room;

    private Texts(Random random, boolean law) {
        this.random = random;
        this.law = law;
        this.room = 5 + random.nextInt(60);
    }

    static String law(Random random) {
        Texts t = new Texts(random, true);
        StringBuilder b = new StringBuilder();
        int clauses = 1 + random.nextInt(random.nextInt(8) == 0 ? 14 : 5);
        for (int i = 0; i < clauses; i++) {
            b.append(i > 0 ? t.gap() + ";" + t.gap() : t.gap());
            switch (random.nextInt(5)) {
                case 0: case 1: b.append("leads ").append(random.nextInt(3) == 0 ? "" + random.nextInt(6) : t.sum(0)); break;
                case 2: b.append("takes ").append(t.sum(0)); break;
                case 3: b.append("bites"); break;
                default: b.append("bars"); break;
            }
            boolean bare = b.charAt(b.length() - 1) == 's';
            if (random.nextInt(4) > 0 || bare && random.nextInt(4) > 0) {
                b.append(" if ").append(t.test(0));
            }
        }
        return cut(t.spoilt(b.toString()));
    }

    static String orders(Random random) {
        Texts t = new Texts(random, false);
        StringBuilder b = new StringBuilder();
        int clauses = 1 + random.nextInt(random.nextInt(8) == 0 ? 14 : 5);
        for (int i = 0; i < clauses; i++) {
            b.append(i > 0 ? t.gap() + ";" + t.gap() : t.gap());
            switch (random.nextInt(4)) {
                case 0: b.append("take ").append(t.near(25)).append(" by ").append(t.near(3)); break;
                case 1:
                    b.append("shift ").append(t.near(25)).append(" to ").append(t.near(25)).append(" of ").append(t.near(30));
                    break;
                case 2: b.append("fence ").append(t.near(25)); break;
                default: b.append("pass"); break;
            }
            if (random.nextInt(3) == 0) {
                b.append(" times ").append(random.nextInt(22));
            }
            if (random.nextInt(3) > 0) {
                b.append(" if ").append(t.test(0));
            }
        }
        return cut(t.spoilt(b.toString()));
    }

    static String row(Random random) {
        StringBuilder b = new StringBuilder();
        int n = random.nextInt(40);
        for (int i = 0; i < n; i++) {
            int most = i % 3 == 0 ? 26 : i % 3 == 1 ? 11 : 102;
            b.append((char) (random.nextInt(30) == 0 ? random.nextInt(256) : random.nextInt(most)));
        }
        return b.toString();
    }

    private static String cut(String text) {
        return text.length() > 400 ? text.substring(0, 400) : text;
    }

    private String gap() {
        return random.nextInt(4) == 0 ? " " : "";
    }

    private String near(int most) {
        return random.nextInt(6) == 0 ? sum(0) : "" + random.nextInt(most);
    }

    private String part(int depth) {
        room--;
        if (room > 0 && depth < 10 && random.nextInt(5) == 0) {
            return "[" + sum(depth + 1) + "]";
        }
        if (random.nextInt(3) == 0) {
            int[] tops = {2, 5, 30, 1002};
            return "" + random.nextInt(tops[random.nextInt(4)]);
        }
        if (law) {
            return LAW_WORDS[random.nextInt(10)];
        }
        switch (random.nextInt(7)) {
            case 0: return "day";
            case 1: return "done";
            case 2: return "latest";
            case 3: return "entry " + random.nextInt(25);
            case 4: return "off " + random.nextInt(5);
            case 5: return "across " + random.nextInt(5);
            default: return "hand " + random.nextInt(5);
        }
    }

    private String sum(int depth) {
        StringBuilder b = new StringBuilder(part(depth));
        while (room > 0 && random.nextInt(3) == 0) {
            String g = gap();
            b.append(g).append("+-*/%".charAt(random.nextInt(5))).append(g).append(part(depth));
        }
        return b.toString();
    }

    private String test(int depth) {
        StringBuilder b = new StringBuilder(plain(depth));
        while (room > 0 && random.nextInt(3) == 0) {
            b.append(random.nextBoolean() ? " and " : " or ").append(plain(depth));
        }
        return b.toString();
    }

    private String plain(int depth) {
        if (random.nextInt(6) == 0) {
            return "not " + plain(depth);
        }
        if (room > 0 && depth < 10 && random.nextInt(5) == 0) {
            return "(" + test(depth + 1) + ")";
        }
        return sum(depth) + gap() + "<>=".charAt(random.nextInt(3)) + gap() + sum(depth);
    }

    /** Now and then a sign is lost, doubled or another one. */
    private String spoilt(String text) {
        if (random.nextInt(3) > 0 || text.isEmpty()) {
            return text;
        }
        int at = random.nextInt(text.length());
        String signs = " ;()[]+-*/%<>=abz059,A{`:/" + (char) 0 + (char) 233 + (char) 10;
        char other = signs.charAt(random.nextInt(signs.length()));
        switch (random.nextInt(4)) {
            case 0: return text.substring(0, at) + text.substring(at + 1);
            case 1: return text.substring(0, at) + other + text.substring(at);
            case 2: return text.substring(0, at) + other + text.substring(at + 1);
            default: return text.substring(0, at);
        }
    }
}
