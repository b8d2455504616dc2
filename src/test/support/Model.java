import java.math.BigInteger;
import java.util.ArrayList;
import java.util.Arrays;
import java.util.HashMap;
import java.util.HashSet;
import java.util.List;
import java.util.Map;
import java.util.Set;
import java.util.regex.Matcher;
import java.util.regex.Pattern;

/**
 * The document once more, written for plainness and in other ways than the class: trees of functions in place of
 * steps, thrown faults, all partings tried, walks in place of bits. RandomRunsTest asks both the same.
 */
public final class Model {
    static final class Broken extends Exception {
        private static final long serialVersionUID = 1L;
    }

    static final class Fault extends Exception {
        private static final long serialVersionUID = 1L;
        final int place;

        Fault(int place) {
            this.place = place;
        }
    }

    interface Words {
        int tell(String word, int number);
    }

    interface Sum {
        int worth(Words words) throws Broken;
    }

    interface Test {
        boolean so(Words words) throws Broken;
    }

    static final class Clause {
        String kind;
        List<Sum> sums = new ArrayList<>();
        int times = 1;
        Test test;
    }

    static final class State {
        int[] entry = new int[25];
        boolean[] fence = new boolean[25];
        int[][] told = new int[2][5];
        List<int[]> clerks = new ArrayList<>();
        List<int[]> booked = new ArrayList<>();
        List<int[]> seen = new ArrayList<>();
        int[] terms = {0, 1, 0};
        List<List<Clause>> laws = new ArrayList<>();
        int force = -1;

        State copy() {
            State s = new State();
            s.entry = entry.clone();
            s.fence = fence.clone();
            s.told = new int[][] {told[0].clone(), told[1].clone()};
            for (int[] c : clerks) {
                s.clerks.add(c.clone());
            }
            s.booked.addAll(booked);
            s.seen.addAll(seen);
            s.terms = terms.clone();
            s.laws.addAll(laws);
            s.force = force;
            return s;
        }

        int off(int kind, int i) {
            int sum = told[kind][i];
            for (int c = 0; c < 25; c++) {
                if ((kind == 0 ? c / 5 : c % 5) == i) {
                    sum -= entry[c];
                }
            }
            return sum;
        }

        boolean even() {
            for (int i = 0; i < 10; i++) {
                if (off(i / 5, i % 5) != 0) {
                    return false;
                }
            }
            return true;
        }
    }

    private State s = new State();
    private final State[] images = new State[2];
    private State weeks;
    private List<State> before = new ArrayList<>();
    private List<Integer> kinds = new ArrayList<>();
    private List<Integer> tape = new ArrayList<>();
    private int smudges = 0;
    private int fault = -1;
    private int stopped = -1;
    private int status = 0;
    private final Map<Integer, Integer> refusals = new HashMap<>();

    private int no(int why) {
        status = why;
        refusals.merge(why, 1, Integer::sum);
        return why;
    }

    private int yes(int answer) {
        status = 0;
        return answer;
    }

    private static boolean in(int n, int least, int most) {
        return least <= n && n <= most;
    }

    private void forgetDeeds() {
        before.clear();
        kinds.clear();
    }

    public int enter(int cell, int entry) {
        if (!in(cell, 0, 24) || !in(entry, 0, 999)) {
            return no(-1);
        }
        forgetDeeds();
        int was = s.entry[cell];
        s.entry[cell] = entry;
        return yes(was);
    }

    public int at(int cell, int what) {
        if (!in(cell, 0, 24)) {
            return -1;
        }
        List<Clause> law = inForce(s);
        return what == 0 ? s.entry[cell] : what == 1 ? (s.fence[cell] ? 1 : 0)
                : what == 2 ? led(s, law, cell) : what == 3 ? (bites(s, law, cell) ? 1 : 0) : -1;
    }

    public int told(int kind, int i, int sum) {
        if (!in(kind, 0, 1) || !in(i, 0, 4) || !in(sum, 0, 9999)) {
            return no(-1);
        }
        int was = s.told[kind][i];
        s.told[kind][i] = sum;
        return yes(was);
    }

    public int off(int kind, int i) {
        return in(kind, 0, 1) && in(i, 0, 4) ? s.off(kind, i) : -100000;
    }

    public int clerk(int keen) {
        if (!in(keen, 0, 9)) {
            return no(-1);
        }
        if (s.clerks.size() == 5) {
            return no(-5);
        }
        forgetDeeds();
        s.clerks.add(new int[] {keen, 0});
        return yes(s.clerks.size() - 1);
    }

    public int of(int clerk, int what) {
        return in(clerk, 0, s.clerks.size() - 1) && in(what, 0, 1) ? s.clerks.get(clerk)[what] : -1;
    }

    public int asks(int clerk, int cell, int what) {
        if (!in(clerk, 0, s.clerks.size() - 1) || !in(cell, 0, 24) || !in(what, 0, 1)) {
            return -1;
        }
        return what == 0 ? takes(s, clerk, cell) : barred(s, clerk, cell) ? 1 : 0;
    }

    public int terms(int what, int value) {
        if (!in(what, 0, 2) || !in(value, 0, what == 0 ? 999 : what == 1 ? 10 : 9)) {
            return no(-1);
        }
        forgetDeeds();
        int was = s.terms[what];
        s.terms[what] = value;
        return yes(was);
    }

    public int feed(int a, int b, int c, int d, int e) {
        if (tape.size() > 380) {
            return -1;
        }
        for (int n : new int[] {a, b, c, d, e}) {
            tape.add(n >>> 24);
            tape.add(n >>> 16 & 255);
            tape.add(n >>> 8 & 255);
            tape.add(n & 255);
        }
        return tape.size();
    }

    public int end(int n) {
        if (n < 0 || n > tape.size()) {
            return -1;
        }
        tape = new ArrayList<>(tape.subList(0, n));
        return n;
    }

    public int row() {
        if (tape.isEmpty()) {
            return no(-6);
        }
        smudges = 0;
        int entered = 0;
        while (!tape.isEmpty()) {
            List<Integer> three = new ArrayList<>(tape.subList(0, Math.min(3, tape.size())));
            tape = new ArrayList<>(tape.subList(three.size(), tape.size()));
            if (three.size() < 3 || three.get(0) > 24 || three.get(1) > 9 || three.get(2) > 99) {
                smudges++;
            } else {
                s.entry[three.get(0)] = three.get(1) * 100 + three.get(2);
                entered++;
            }
        }
        forgetDeeds();
        return yes(entered);
    }

    public int smudges() {
        return smudges;
    }

    private String takeTape() {
        StringBuilder b = new StringBuilder();
        for (int n : tape) {
            b.append((char) n);
        }
        tape.clear();
        return b.toString();
    }

    public int law() {
        String text = takeTape();
        if (s.laws.size() == 6) {
            return no(-5);
        }
        fault = -1;
        try {
            s.laws.add(new Parser(text, true).text());
        } catch (Fault f) {
            fault = f.place;
            return no(-6);
        }
        return yes(s.laws.size() - 1);
    }

    public int orders() {
        stopped = -1;
        fault = -1;
        List<Clause> text;
        try {
            text = new Parser(takeTape(), false).text();
        } catch (Fault f) {
            fault = f.place;
            return no(-6);
        }
        State kept = s.copy();
        List<State> keptBefore = new ArrayList<>(before);
        List<Integer> keptKinds = new ArrayList<>(kinds);
        int[] doneLatest = {0, -1};
        for (int i = 0; i < text.size(); i++) {
            for (int t = 0; t < text.get(i).times; t++) {
                if (!runOnce(text.get(i), doneLatest)) {
                    s = kept;
                    before = keptBefore;
                    kinds = keptKinds;
                    stopped = i;
                    return no(-3);
                }
            }
        }
        return yes(doneLatest[0]);
    }

    private boolean runOnce(Clause c, int[] doneLatest) {
        Words words = (word, n) -> {
            switch (word) {
                case "day":
                    return s.terms[0];
                case "done":
                    return doneLatest[0];
                case "latest":
                    return doneLatest[1];
                case "entry":
                    return s.entry[n];
                case "off":
                    return s.off(0, n);
                case "across":
                    return s.off(1, n);
                default:
                    return n < s.clerks.size() ? s.clerks.get(n)[1] : -1;
            }
        };
        try {
            if (c.test != null && !c.test.so(words)) {
                return true;
            }
        } catch (Broken b) {
            return true;
        }
        List<Integer> w = new ArrayList<>();
        try {
            for (Sum sum : c.sums) {
                w.add(sum.worth(words));
            }
        } catch (Broken b) {
            return false;
        }
        int answer = c.kind.equals("take") ? doTake(w.get(0), w.get(1))
                : c.kind.equals("shift") ? doShift(w.get(0), w.get(1), w.get(2))
                : c.kind.equals("fence") ? doFence(w.get(0)) : doPass();
        if (answer < 0) {
            return false;
        }
        doneLatest[0]++;
        if (c.kind.equals("take")) {
            doneLatest[1] = answer;
        }
        return true;
    }

    public int fault() {
        return fault;
    }

    public int stopped() {
        return stopped;
    }

    public int force(int law) {
        if (!in(law, -1, s.laws.size() - 1)) {
            return no(-2);
        }
        int was = s.force;
        s.force = law;
        return yes(was);
    }

    private void keepDeed(int kind) {
        before.add(s.copy());
        kinds.add(kind);
        if (before.size() > 16) {
            before.remove(0);
            kinds.remove(0);
        }
    }

    private static int taking(State t, int cell, int clerk) {
        if (!in(cell, 0, 24)) {
            return -1;
        }
        if (!in(clerk, 0, t.clerks.size() - 1)) {
            return -2;
        }
        int n = Math.min(takes(t, clerk, cell), t.entry[cell]);
        return barred(t, clerk, cell) || n == 0 ? -3 : n;
    }

    /** What is beyond a full HAND is lost, one by one. */
    private static void taken(State t, int cell, int clerk, int n) {
        for (int i = 0; i < n; i++) {
            t.entry[cell]--;
            if (t.clerks.get(clerk)[1] < 9999) {
                t.clerks.get(clerk)[1]++;
            }
        }
    }

    private int doTake(int cell, int clerk) {
        int n = taking(s, cell, clerk);
        if (n > 0) {
            keepDeed(0);
            taken(s, cell, clerk, n);
        }
        return n;
    }

    private int doShift(int from, int to, int n) {
        if (!in(from, 0, 24) || !in(to, 0, 24) || from == to || !in(n, 1, 999)) {
            return -1;
        }
        if (s.entry[from] - n < 0 || s.entry[to] + n > 999) {
            return -3;
        }
        keepDeed(1);
        s.entry[from] -= n;
        s.entry[to] += n;
        return s.entry[from];
    }

    private int doFence(int cell) {
        if (!in(cell, 0, 24)) {
            return -1;
        }
        keepDeed(2);
        s.fence[cell] = !s.fence[cell];
        return s.fence[cell] ? 1 : 0;
    }

    private int doPass() {
        if (s.terms[0] == 999) {
            return -3;
        }
        keepDeed(3);
        return ++s.terms[0];
    }

    private int said(int answer) {
        return answer < 0 ? no(answer) : yes(answer);
    }

    public int take(int cell, int clerk) {
        return said(doTake(cell, clerk));
    }

    public int shift(int from, int to, int n) {
        return said(doShift(from, to, n));
    }

    public int fence(int cell) {
        return said(doFence(cell));
    }

    public int pass() {
        return said(doPass());
    }

    /** Goes back to the whole state ahead of the deed, but for what a deed does not touch. */
    public int undo() {
        if (before.isEmpty()) {
            return no(-3);
        }
        State old = before.remove(before.size() - 1);
        s.entry = old.entry;
        s.fence = old.fence;
        s.terms = old.terms;
        s.clerks = old.clerks;
        return yes(kinds.remove(kinds.size() - 1));
    }

    public int fewest() {
        List<int[]> off = new ArrayList<>();
        for (int i = 0; i < 10; i++) {
            if (s.off(i / 5, i % 5) != 0) {
                off.add(new int[] {i / 5, s.off(i / 5, i % 5)});
            }
        }
        return cheapest(off, 0, new ArrayList<>());
    }

    /** All ways to part are tried: each next one comes to one of the heaps, or to a new one. */
    private static int cheapest(List<int[]> off, int i, List<List<int[]>> heaps) {
        if (i == off.size()) {
            int cost = 0;
            for (List<int[]> heap : heaps) {
                int sum = 0;
                Set<Integer> both = new HashSet<>();
                for (int[] line : heap) {
                    sum += line[0] == 0 ? line[1] : -line[1];
                    both.add(line[0]);
                }
                if (sum != 0) {
                    return -1;
                }
                cost += heap.size() + 1 - both.size();
            }
            return cost;
        }
        int best = -1;
        for (int h = 0; h <= heaps.size(); h++) {
            boolean fresh = h == heaps.size();
            if (fresh) {
                heaps.add(new ArrayList<>());
            }
            List<int[]> heap = heaps.get(h);
            heap.add(off.get(i));
            int cost = cheapest(off, i + 1, heaps);
            heap.remove(heap.size() - 1);
            if (fresh) {
                heaps.remove(h);
                h++;
            }
            if (cost >= 0 && (best < 0 || cost < best)) {
                best = cost;
            }
        }
        return best;
    }

    public int turned(int i) {
        List<Integer> twos = new ArrayList<>();
        for (int a = 0; a < 25; a++) {
            for (int b = a + 1; b < 25; b++) {
                State t = s.copy();
                t.entry[a] = s.entry[b];
                t.entry[b] = s.entry[a];
                if (t.even()) {
                    twos.add(100 * a + b);
                }
            }
        }
        return i == -1 ? twos.size() : in(i, 0, twos.size() - 1) ? twos.get(i) : -1;
    }

    private static List<Clause> inForce(State t) {
        return t.force < 0 ? new ArrayList<>() : t.laws.get(t.force);
    }

    /** What the CLAUSES of a kind that HOLD tell, in their order (null without a SUM). */
    private static List<Integer> holding(State t, List<Clause> law, String kind, int cell, int clerk) {
        Words words = (word, n) -> {
            switch (word) {
                case "cell":
                    return cell;
                case "row":
                    return cell / 5;
                case "column":
                    return cell % 5;
                case "entry":
                    return t.entry[cell];
                case "off":
                    return t.off(0, cell / 5);
                case "across":
                    return t.off(1, cell % 5);
                case "clerk":
                    return clerk;
                case "keen":
                    return clerk < 0 ? -1 : t.clerks.get(clerk)[0];
                case "day":
                    return t.terms[0];
                default:
                    return t.terms[2];
            }
        };
        List<Integer> tells = new ArrayList<>();
        for (Clause c : law) {
            if (c.kind.equals(kind)) {
                try {
                    if (c.test == null || c.test.so(words)) {
                        tells.add(c.sums.isEmpty() ? null : (Integer) c.sums.get(0).worth(words));
                    }
                } catch (Broken b) {
                    continue;
                }
            }
        }
        return tells;
    }

    private static int clamp(List<Integer> tells, int most, int without) {
        if (tells.isEmpty()) {
            return without;
        }
        int n = tells.get(tells.size() - 1);
        return n < 0 ? 0 : n > most ? most : n;
    }

    private static int led(State t, List<Clause> law, int cell) {
        return clamp(holding(t, law, "leads", cell, -1), 4, 2);
    }

    private static boolean bites(State t, List<Clause> law, int cell) {
        return !holding(t, law, "bites", cell, -1).isEmpty();
    }

    private static int takes(State t, int clerk, int cell) {
        return clamp(holding(t, inForce(t), "takes", cell, clerk), 99, 10);
    }

    private static boolean barred(State t, int clerk, int cell) {
        return !holding(t, inForce(t), "bars", cell, clerk).isEmpty();
    }

    private static int step(State t, List<Clause> law, int place) {
        if (place == 25 || bites(t, law, place)) {
            return place;
        }
        int way = led(t, law, place);
        int[] rows = {0, 1, 0, -1, 0};
        int[] columns = {0, 0, 1, 0, -1};
        int row = place / 5 + rows[way];
        int column = place % 5 + columns[way];
        if (!in(row, 0, 4) || !in(column, 0, 4)) {
            return 25;
        }
        return t.fence[5 * row + column] ? place : 5 * row + column;
    }

    private static int goes(State t, List<Clause> law, int place, int n) {
        int p = place;
        for (int i = 0; i < n; i++) {
            p = step(t, law, p);
        }
        return p;
    }

    public int hound(int cell, int n) {
        return in(cell, 0, 24) && in(n, 0, 99) ? goes(s, inForce(s), cell, n) : -1;
    }

    private int[] steps() {
        int[] to = new int[26];
        for (int c = 0; c < 26; c++) {
            to[c] = step(s, inForce(s), c);
        }
        return to;
    }

    public int ring(int cell, int what) {
        if (!in(cell, 0, 24) || !in(what, 0, 1)) {
            return -1;
        }
        int[] to = steps();
        List<Integer> way = new ArrayList<>();
        int p = cell;
        while (!way.contains(p)) {
            way.add(p);
            p = to[p];
        }
        int tail = way.indexOf(p);
        return what == 0 ? tail : p == 25 ? 0 : way.size() - tail;
    }

    public int sources(int cell) {
        if (!in(cell, 0, 24)) {
            return -1;
        }
        int[] to = steps();
        int bits = 0;
        for (int c = 0; c < 25; c++) {
            int p = c;
            for (int i = 0; i < 30; i++) {
                if (p == cell) {
                    bits |= 1 << c;
                }
                p = to[p];
            }
        }
        return bits;
    }

    public int casts(int what) {
        if (!in(what, 0, 1)) {
            return -1;
        }
        int[] to = steps();
        Set<Integer> casts = new HashSet<>();
        for (int c = 0; c < 25; c++) {
            Set<Integer> ring = new HashSet<>();
            int p = to[c];
            while (p != 25 && p != c && !ring.contains(p)) {
                ring.add(p);
                p = to[p];
            }
            ring.add(c);
            boolean onRing = p == c;
            boolean comeTo = false;
            int lowest = c;
            for (int d = 0; d < 25; d++) {
                comeTo |= onRing ? !ring.contains(d) && ring.contains(to[d]) : to[d] == c;
                lowest = onRing && ring.contains(d) ? Math.min(lowest, d) : lowest;
            }
            if (!comeTo) {
                casts.add(lowest);
            }
        }
        int bits = 0;
        for (int c : casts) {
            bits |= 1 << c;
        }
        return what == 0 ? casts.size() : bits;
    }

    public int seen(int cell, int n, int where) {
        if (!in(cell, 0, 24) || !in(n, 0, 99) || !in(where, 0, 25)) {
            return no(-1);
        }
        if (s.seen.size() == 8) {
            return no(-5);
        }
        s.seen.add(new int[] {cell, n, where});
        return yes(s.seen.size());
    }

    public int fits() {
        int bits = 0;
        for (int l = 0; l < s.laws.size(); l++) {
            boolean fit = true;
            for (int[] one : s.seen) {
                fit &= goes(s, s.laws.get(l), one[0], one[1]) == one[2];
            }
            bits += fit ? 1 << l : 0;
        }
        return bits;
    }

    public int next(int n, int what) {
        int fits = fits();
        if (!in(n, 0, 99) || !in(what, 0, 1) || fits == 0) {
            return -1;
        }
        int best = -1;
        int least = 99;
        for (int c = 0; c < 25; c++) {
            int[] at = new int[26];
            for (int l = 0; l < s.laws.size(); l++) {
                if ((fits & 1 << l) != 0) {
                    at[goes(s, s.laws.get(l), c, n)]++;
                }
            }
            int most = Arrays.stream(at).max().getAsInt();
            if (most < least) {
                least = most;
                best = c;
            }
        }
        return what == 0 ? best : least;
    }

    public int booked(int from, int to, int n) {
        if (!in(from, 0, 4) || !in(to, 0, 4) || from == to || !in(n, 1, 999)) {
            return no(-1);
        }
        if (s.booked.size() == 10) {
            return no(-5);
        }
        s.booked.add(new int[] {from, to, n});
        return yes(s.booked.size());
    }

    /** What can go through is pushed one by one along any way that is still open. */
    public int through(int from, int to, int what) {
        if (!in(from, 0, 4) || !in(to, 0, 4) || from == to || !in(what, 0, 1)) {
            return -1;
        }
        int[][] open = new int[5][5];
        for (int[] b : s.booked) {
            open[b[0]][b[1]] += b[2];
        }
        int flow = 0;
        int more = push(open, from, to, 99999, new boolean[5]);
        while (more > 0) {
            flow += more;
            more = push(open, from, to, 99999, new boolean[5]);
        }
        if (what == 0) {
            return flow;
        }
        for (int set = 0; set < 32; set++) {
            int out = 0;
            for (int[] b : s.booked) {
                out += (set & 1 << b[0]) != 0 && (set & 1 << b[1]) == 0 ? b[2] : 0;
            }
            if ((set & 1 << from) != 0 && (set & 1 << to) == 0 && out == flow) {
                return set;
            }
        }
        return -99;
    }

    private static int push(int[][] open, int at, int to, int most, boolean[] met) {
        if (at == to) {
            return most;
        }
        met[at] = true;
        for (int k = 0; k < 5; k++) {
            if (!met[k] && open[at][k] > 0) {
                int got = push(open, k, to, Math.min(most, open[at][k]), met);
                if (got > 0) {
                    open[at][k] -= got;
                    open[k][at] += got;
                    return got;
                }
            }
        }
        return 0;
    }

    public int settled() {
        List<int[]> uneven = new ArrayList<>();
        for (int a = 0; a < 5; a++) {
            int sum = 0;
            for (int[] b : s.booked) {
                sum += b[0] == a ? b[2] : b[1] == a ? -b[2] : 0;
            }
            if (sum != 0) {
                uneven.add(new int[] {sum > 0 ? 0 : 1, Math.abs(sum)});
            }
        }
        return cheapest(uneven, 0, new ArrayList<>());
    }

    public int forget() {
        int n = s.seen.size() + s.booked.size();
        s.seen.clear();
        s.booked.clear();
        return n;
    }

    public long few(int k, int n) {
        if (!in(k, 1, 20) || !in(n, 0, 99)) {
            return -1;
        }
        BigInteger slip = BigInteger.valueOf(s.terms[1]);
        BigInteger[] parts = new BigInteger[101];
        Arrays.fill(parts, BigInteger.ZERO);
        parts[0] = BigInteger.TEN.pow(12);
        for (int d = 0; d < n; d++) {
            BigInteger[] then = new BigInteger[101];
            Arrays.fill(then, BigInteger.ZERO);
            for (int j = 0; j < 100; j++) {
                then[j] = then[j].add(parts[j].multiply(BigInteger.TEN.subtract(slip)).divide(BigInteger.TEN));
                then[j + 1] = then[j + 1].add(parts[j].multiply(slip).divide(BigInteger.TEN));
            }
            parts = then;
        }
        BigInteger sum = BigInteger.ZERO;
        for (int j = 0; j < k; j++) {
            sum = sum.add(parts[j]);
        }
        return sum.longValueExact();
    }

    public int weeks(int seed, int n) {
        if (!in(seed, 0, 1000000) || !in(n, 1, 60)) {
            return no(-1);
        }
        if (s.clerks.isEmpty()) {
            return no(-3);
        }
        weeks = s.copy();
        long x = seed;
        int sum = 0;
        for (int d = 0; d < n; d++) {
            if (weeks.terms[0] == 999) {
                break;
            }
            x = (x * 1103 + 12345) % 1000003;
            int clerk = (int) (x % weeks.clerks.size());
            x = (x * 1103 + 12345) % 1000003;
            int cell = (int) (x % 25);
            int got = taking(weeks, cell, clerk);
            if (got > 0) {
                taken(weeks, cell, clerk, got);
                sum += got;
            }
            weeks.terms[0]++;
        }
        return yes(sum);
    }

    public int drawn(int k, int what) {
        if (weeks == null) {
            return -1;
        }
        return what == 0 && in(k, 0, 24) ? weeks.entry[k]
                : what == 1 && in(k, 0, weeks.clerks.size() - 1) ? weeks.clerks.get(k)[1] : -1;
    }

    public int image(int k) {
        if (!in(k, 0, 1)) {
            return no(-1);
        }
        images[k] = s.copy();
        return yes(0);
    }

    public int back(int k) {
        if (!in(k, 0, 1)) {
            return no(-1);
        }
        if (images[k] == null) {
            return no(-2);
        }
        s = images[k].copy();
        forgetDeeds();
        return yes(0);
    }

    public int count(int what) {
        int fences = 0;
        for (boolean f : s.fence) {
            fences += f ? 1 : 0;
        }
        int[] counts = {s.clerks.size(), fences, s.seen.size(), s.booked.size(), s.laws.size(), before.size(),
            tape.size(), refusals.getOrDefault(-1, 0), refusals.getOrDefault(-2, 0), refusals.getOrDefault(-3, 0),
            refusals.getOrDefault(-5, 0), refusals.getOrDefault(-6, 0), s.force, s.terms[0], s.terms[1], s.terms[2]};
        return in(what, 0, 15) ? counts[what] : -1;
    }

    public int status() {
        return status;
    }

    /** Reads a text into trees of functions. */
    static final class Parser {
        private final boolean law;
        private final List<String> tokens = new ArrayList<>();
        private final List<Integer> places = new ArrayList<>();
        private int i = 0;
        private int parts = 0;
        private int open = 0;

        Parser(String text, boolean law) {
            this.law = law;
            Matcher m = Pattern.compile("[a-z]+|[0-9]+|[^ ]", Pattern.DOTALL).matcher(text);
            while (m.find()) {
                tokens.add(m.group());
                places.add(m.start());
            }
            tokens.add("");
            places.add(text.length());
        }

        private Fault bad() {
            return new Fault(places.get(i));
        }

        private boolean see(String... any) {
            return Arrays.asList(any).contains(tokens.get(i));
        }

        private String need(String... any) throws Fault {
            if (!see(any)) {
                throw bad();
            }
            return tokens.get(i++);
        }

        private boolean pick(String one) {
            if (see(one)) {
                i++;
                return true;
            }
            return false;
        }

        private int number(int least, int most) throws Fault {
            if (!tokens.get(i).matches("[0-9]+")) {
                throw bad();
            }
            BigInteger n = new BigInteger(tokens.get(i));
            if (n.compareTo(BigInteger.valueOf(least)) < 0 || n.compareTo(BigInteger.valueOf(most)) > 0) {
                throw bad();
            }
            i++;
            return n.intValue();
        }

        List<Clause> text() throws Fault {
            List<Clause> clauses = new ArrayList<>();
            do {
                if (clauses.size() == 12) {
                    throw bad();
                }
                clauses.add(clause());
            } while (pick(";"));
            if (!see("")) {
                throw bad();
            }
            return clauses;
        }

        private Clause clause() throws Fault {
            Clause c = new Clause();
            c.kind = law ? need("leads", "takes", "bites", "bars") : need("take", "shift", "fence", "pass");
            String[] behind = {};
            switch (c.kind) {
                case "leads":
                case "takes":
                case "fence":
                    behind = new String[] {""};
                    break;
                case "take":
                    behind = new String[] {"", "by"};
                    break;
                case "shift":
                    behind = new String[] {"", "to", "of"};
                    break;
                default:
                    break;
            }
            for (String word : behind) {
                if (!word.isEmpty()) {
                    need(word);
                }
                c.sums.add(sum());
            }
            if (!law && pick("times")) {
                c.times = number(1, 20);
            }
            if (pick("if")) {
                c.test = test();
            }
            return c;
        }

        private Test test() throws Fault {
            Test left = both();
            while (pick("or")) {
                Test a = left;
                Test b = both();
                left = w -> a.so(w) || b.so(w);
            }
            return left;
        }

        private Test both() throws Fault {
            Test left = plain();
            while (pick("and")) {
                Test a = left;
                Test b = plain();
                left = w -> a.so(w) && b.so(w);
            }
            return left;
        }

        private void opens() throws Fault {
            if (open == 8) {
                throw bad();
            }
            i++;
            open++;
        }

        private void closes(String sign) throws Fault {
            need(sign);
            open--;
        }

        private Test plain() throws Fault {
            if (pick("not")) {
                Test a = plain();
                return w -> !a.so(w);
            }
            if (see("(")) {
                opens();
                Test a = test();
                closes(")");
                return a;
            }
            Sum a = sum();
            String sign = need("<", ">", "=");
            Sum b = sum();
            return w -> {
                int x = a.worth(w);
                int y = b.worth(w);
                return sign.equals("<") ? x < y : sign.equals(">") ? x > y : x == y;
            };
        }

        private static int kept(BigInteger n) throws Broken {
            if (n.abs().compareTo(BigInteger.valueOf(1000000000)) > 0) {
                throw new Broken();
            }
            return n.intValue();
        }

        private static Sum joined(String sign, Sum left, Sum right) {
            return w -> {
                BigInteger a = BigInteger.valueOf(left.worth(w));
                BigInteger b = BigInteger.valueOf(right.worth(w));
                switch (sign) {
                    case "+":
                        return kept(a.add(b));
                    case "-":
                        return kept(a.subtract(b));
                    case "*":
                        return kept(a.multiply(b));
                    default:
                        if (b.signum() == 0) {
                            throw new Broken();
                        }
                        return kept(sign.equals("/") ? a.divide(b) : a.remainder(b));
                }
            };
        }

        private Sum sum() throws Fault {
            Sum left = term();
            while (see("+", "-")) {
                left = joined(need("+", "-"), left, term());
            }
            return left;
        }

        private Sum term() throws Fault {
            Sum left = part();
            while (see("*", "/", "%")) {
                left = joined(need("*", "/", "%"), left, part());
            }
            return left;
        }

        private Sum part() throws Fault {
            if (see("[")) {
                opens();
                Sum a = sum();
                closes("]");
                return a;
            }
            if (parts == 50) {
                throw bad();
            }
            parts++;
            if (tokens.get(i).matches("[0-9]+")) {
                int n = number(0, 1000);
                return w -> n;
            }
            String word = law
                    ? need("cell", "row", "column", "entry", "off", "across", "clerk", "keen", "day", "mood")
                    : need("day", "done", "latest", "entry", "off", "across", "hand");
            int n = law || Arrays.asList("day", "done", "latest").contains(word) ? 0
                    : number(0, word.equals("entry") ? 24 : 4);
            return w -> w.tell(word, n);
        }
    }
}
