import java.lang.reflect.Method;
import java.util.ArrayList;
import java.util.List;
import java.util.Random;

/** Runs of calls by draws, put to the class and to the Model alike; all promises, most of all their mixtures. */
public final class RandomRunsTest {
    private static final int RUNS = 400;
    private static final int CALLS = 512;
    /** No step of go() makes more calls than this. */
    private static final int LONGEST = 60;
    private static final List<Method[]> CALLED = new ArrayList<>();

    private final Random random;
    private final LedgerHounds x = new LedgerHounds();
    private final Model model = new Model();
    private final List<String> said = new ArrayList<>();
    private int calls = 0;

    private RandomRunsTest(int seed) {
        random = new Random(seed);
    }

    public static void main(String[] args) throws Exception {
        for (Method m : LedgerHounds.class.getDeclaredMethods()) {
            if (java.lang.reflect.Modifier.isPublic(m.getModifiers())) {
                CALLED.add(new Method[] {m, Model.class.getMethod(m.getName(), m.getParameterTypes())});
            }
        }
        CALLED.sort((a, b) -> a[0].getName().compareTo(b[0].getName()));
        for (int seed = 0; seed < RUNS && Due.allWell(); seed++) {
            RandomRunsTest run = new RandomRunsTest(seed);
            run.go();
            if (!Due.allWell()) {
                System.out.println("run of seed " + seed + ", its latest calls:");
                List<String> s = run.said;
                s.subList(Math.max(0, s.size() - 60), s.size()).forEach(System.out::println);
            }
        }
        Due.end("RandomRunsTest");
    }

    private void go() throws Exception {
        int wildness = random.nextInt(4);
        if (wildness < 3) {
            prepare();
        }
        if (random.nextInt(8) == 0) {
            fillHands();
        }
        while (calls < CALLS - LONGEST && Due.allWell()) {
            int d = random.nextInt(100);
            if (d < 8) {
                putText(Texts.law(random));
                call("law");
                call("fault");
                if (random.nextBoolean()) {
                    call("force", random.nextInt(7) - 1);
                }
            } else if (d < 20) {
                putText(Texts.orders(random));
                call("orders");
                call("fault");
                call("stopped");
                call("count", 5);
            } else if (d < 22) {
                putText(Texts.row(random));
                call("row");
                call("smudges");
            } else if (d < 24) {
                balance();
            } else {
                any();
            }
        }
        while (calls < CALLS && Due.allWell()) {
            any();
        }
    }

    private void prepare() throws Exception {
        int clerks = random.nextInt(6);
        for (int i = 0; i < clerks; i++) {
            call("clerk", random.nextInt(10));
        }
        int entries = random.nextInt(30);
        for (int i = 0; i < entries; i++) {
            call("enter", random.nextInt(25), random.nextInt(random.nextBoolean() ? 1000 : 8));
        }
    }

    /** CLERK 0 comes near a full HAND, so that the takings of the run, of ORDERS and of WEEKS go beyond it. */
    private void fillHands() throws Exception {
        call("clerk", random.nextInt(10));
        putText("takes 99");
        call("law");
        call("force", 0);
        for (int c = 0; c < 25; c++) {
            call("enter", c, 999 - random.nextInt(4));
        }
        putText("take done/9 by 0 times 20" + ";take done/9 by 0 times 20".repeat(4));
        call("orders");
        call("of", 0, 1);
        for (int i = 0; i < 6; i++) {
            call("take", random.nextInt(25), random.nextInt(2));
            call("of", 0, 1);
        }
        call("weeks", random.nextInt(1000), 1 + random.nextInt(60));
        call("drawn", 0, 1);
        call("drawn", random.nextInt(25), 0);
        for (int i = random.nextInt(6); i > 0; i--) {
            call("undo");
            call("of", 0, 1);
        }
    }

    /** Tells sums that are nearly the ledger's own, so that FEWEST and TURNED have something to find. */
    private void balance() throws Exception {
        int spread = random.nextInt(3);
        int[] add = new int[10];
        for (int i = 0; i < 5 * spread; i++) {
            int n = random.nextInt(7) - 3;
            add[random.nextInt(5)] += n;
            add[5 + random.nextInt(5)] += n;
        }
        for (int i = 0; i < 10; i++) {
            int want = x.off(i / 5, i % 5) * -1 + add[i];
            int was = x.told(i / 5, i % 5, 0);
            x.told(i / 5, i % 5, was);
            model.told(i / 5, i % 5, 0);
            model.told(i / 5, i % 5, was);
            calls += 3;
            call("told", i / 5, i % 5, was + want);
        }
        call("fewest");
        call("turned", -1);
        call("turned", random.nextInt(12));
        if (spread == 0) {
            int a = random.nextInt(25);
            int b = random.nextInt(25);
            int ea = x.at(a, 0);
            calls += 2;
            call("enter", a, x.at(b, 0));
            call("enter", b, ea);
            call("turned", -1);
            call("turned", 0);
            call("fewest");
        }
    }

    private void any() throws Exception {
        Method[] m = CALLED.get(random.nextInt(CALLED.size()));
        String name = m[0].getName();
        if ((name.equals("back") || name.equals("forget")) && random.nextInt(3) > 0) {
            return;
        }
        int[] a = new int[m[0].getParameterCount()];
        for (int i = 0; i < a.length; i++) {
            a[i] = number(name, i);
        }
        call(name, a);
    }

    private int number(String name, int i) {
        if (random.nextInt(25) == 0) {
            int[] edges = {-1, -2, 5, 9, 10, 24, 25, 26, 59, 60, 61, 99, 100, 998, 999, 1000, 9999, 10000, 1000000,
                1000001, Integer.MAX_VALUE, Integer.MIN_VALUE};
            return edges[random.nextInt(edges.length)];
        }
        String kinds;
        switch (name) {
            case "enter": kinds = "ce"; break;
            case "at": kinds = "c4"; break;
            case "told": kinds = "25s"; break;
            case "off": kinds = "25"; break;
            case "clerk": kinds = "t"; break;
            case "of": kinds = "52"; break;
            case "asks": kinds = "5c2"; break;
            case "terms": kinds = "3t"; break;
            case "force": kinds = "5"; break;
            case "take": kinds = "c3"; break;
            case "shift": kinds = "ccl"; break;
            case "turned": kinds = "l"; break;
            case "hound": kinds = "cn"; break;
            case "ring": kinds = "c2"; break;
            case "seen": kinds = "c3o"; break;
            case "next": kinds = "32"; break;
            case "booked": kinds = "55t"; break;
            case "through": kinds = "552"; break;
            case "few": kinds = "kn"; break;
            case "weeks": kinds = "ew"; break;
            case "drawn": kinds = "52"; break;
            case "image": case "back": case "casts": kinds = "2"; break;
            case "count": kinds = "g"; break;
            case "feed": case "end": return random.nextInt();
            default: kinds = "c"; break;
        }
        switch (kinds.charAt(i)) {
            case 'c': return random.nextInt(25);
            case 'e': return random.nextInt(1000);
            case 's': return random.nextInt(3000);
            case 't': return random.nextInt(10);
            case 'l': return 1 + random.nextInt(40);
            case 'n': return random.nextInt(100);
            case 'o': return random.nextInt(26);
            case 'k': return 1 + random.nextInt(20);
            case 'w': return 1 + random.nextInt(60);
            case 'g': return random.nextInt(17);
            default: return random.nextInt(kinds.charAt(i) - '0');
        }
    }

    private void putText(String text) throws Exception {
        call("end", 0);
        for (int i = 0; i < text.length(); i += 20) {
            int[] n = new int[5];
            for (int k = 0; k < 20; k++) {
                n[k / 4] = n[k / 4] << 8 | (i + k < text.length() ? text.charAt(i + k) : 0);
            }
            call("feed", n);
        }
        call("end", text.length());
        said.add("tape: " + text);
    }

    private void call(String name, int... a) throws Exception {
        for (Method[] m : CALLED) {
            if (m[0].getName().equals(name)) {
                Object[] given = new Object[a.length];
                for (int i = 0; i < a.length; i++) {
                    given[i] = a[i];
                }
                long got = ((Number) m[0].invoke(x, given)).longValue();
                long want = ((Number) m[1].invoke(model, given)).longValue();
                String text = name + java.util.Arrays.toString(a);
                said.add(text + " " + got);
                Due.is(text, got, want);
                calls++;
            }
        }
    }
}
