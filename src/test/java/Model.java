import java.util.ArrayDeque;
import java.util.ArrayList;
import java.util.Arrays;
import java.util.List;
import java.util.regex.Matcher;
import java.util.regex.Pattern;

/**
 * The document written a second time, as slowly and as near to its words as can be: ways are all listed and
 * sorted, shares are all tried, tokens are cut by a pattern. ModelTest compares StairTolls with it.
 */
final class Model {
    static final int NONE = -1000000, BAD = -1000001, STATE = -1000002, FULL = -1000003;

    record Step(int owner, int asks, boolean broken) { }

    record Walker(int reach, int load, int worth, int folk) { }

    record Stair(List<Step> steps, List<Walker> walkers) {
        Stair with(int i, Step s) {
            List<Step> other = new ArrayList<>(steps);
            other.set(i, s);
            return new Stair(other, walkers);
        }

        Stair askingOf(int owners, int v) {
            List<Step> other = new ArrayList<>();
            for (Step s : steps) {
                other.add((owners >> s.owner & 1) == 1 ? new Step(s.owner, v, s.broken) : s);
            }
            return new Stair(other, walkers);
        }

        int asks(List<Integer> way) {
            int sum = 0;
            for (int i : way) {
                sum += steps.get(i).asks;
            }
            return sum;
        }
    }

    private static final class Row {
        int lane;
        int[] items;
    }

    private record Token(int at, String text) { }

    private final Row[] rows = new Row[8];
    private final StringBuilder tape = new StringBuilder();
    private Stair now = null;
    private final Stair[] images = new Stair[2];
    private final ArrayDeque<Stair> before = new ArrayDeque<>();
    private final List<Integer> trace = new ArrayList<>();
    private int fault = 0;
    private int status = 0;

    // ---- rows

    private int finding(int number) {
        status = number;
        return -1000010 - number;
    }

    private int fine(int answer) {
        status = 0;
        return answer;
    }

    private static boolean in(int v, int low, int high) {
        return v >= low && v <= high;
    }

    int row(int row, int lane, int n) {
        if (!in(row, 0, 7) || !in(lane, 0, 2) || n > 40) {
            return BAD;
        }
        if (n < 0) {
            return finding(4);
        }
        rows[row] = new Row();
        rows[row].lane = lane;
        rows[row].items = new int[n];
        return fine(n);
    }

    int set(int row, int i, int v) {
        if (!in(row, 0, 7)) {
            return BAD;
        }
        if (rows[row] == null) {
            return finding(1);
        }
        if (!in(i, 0, rows[row].items.length - 1)) {
            return finding(2);
        }
        int bits = 8 << rows[row].lane;
        int kept = (int) ((long) v << 64 - bits >> 64 - bits);
        rows[row].items[i] = kept;
        return fine(kept);
    }

    int copy(int a, int i, int b, int j, int n) {
        if (!in(a, 0, 7) || !in(b, 0, 7)) {
            return BAD;
        }
        if (rows[a] == null || rows[b] == null) {
            return finding(1);
        }
        if (rows[a].lane != rows[b].lane) {
            return finding(5);
        }
        if (i < 0 || j < 0 || n < 0 || (long) i + n > rows[a].items.length || (long) j + n > rows[b].items.length) {
            return finding(2);
        }
        int[] ahead = rows[a].items.clone();
        for (int k = 0; k < n; k++) {
            rows[b].items[j + k] = ahead[i + k];
        }
        return fine(n);
    }

    int drop(int row) {
        if (!in(row, 0, 7)) {
            return BAD;
        }
        if (rows[row] == null) {
            return finding(1);
        }
        int had = rows[row].items.length;
        rows[row] = null;
        return fine(had);
    }

    // ---- stairs, acts

    int feed(long w, int n) {
        if (!in(n, 1, 8)) {
            return BAD;
        }
        if (tape.length() + n > 400) {
            return FULL;
        }
        for (int i = n - 1; i >= 0; i--) {
            tape.append((char) (w >> 8 * i & 255));
        }
        return tape.length();
    }

    private static final Pattern TOKEN = Pattern.compile("[a-z]+|[0-9]+|[^ \n]", Pattern.DOTALL);

    int stair() {
        List<Token> tokens = new ArrayList<>();
        Matcher m = TOKEN.matcher(tape);
        while (m.find()) {
            tokens.add(new Token(m.start(), m.group()));
        }
        tokens.add(new Token(tape.length(), ""));
        tape.setLength(0);
        Stair read = new Stair(new ArrayList<>(), new ArrayList<>());
        int at = 0;
        while (!tokens.get(at).text.isEmpty() || at == 0) {
            Token t = tokens.get(at);
            boolean isStep = t.text.equals("step") && read.walkers.isEmpty();
            boolean isWalker = t.text.equals("walker") && !read.steps.isEmpty();
            if (!isStep && !isWalker) {
                return faulty(1, t);
            }
            if (isStep ? read.steps.size() == 18 : read.walkers.size() == 6) {
                return faulty(3, t);
            }
            int[][] ranges = isStep ? new int[][] {{0, 4}, {0, 20}} : new int[][] {{1, 3}, {0, 2}, {0, 200}, {1, 20}};
            int[] v = new int[ranges.length];
            for (int i = 0; i < v.length; i++) {
                Token number = tokens.get(++at);
                if (!number.text.matches("[0-9]{1,3}")) {
                    return faulty(1, number);
                }
                v[i] = Integer.parseInt(number.text);
                if (!in(v[i], ranges[i][0], ranges[i][1])) {
                    return faulty(2, number);
                }
            }
            if (!tokens.get(++at).text.equals(";")) {
                return faulty(1, tokens.get(at));
            }
            at++;
            if (isStep) {
                read.steps.add(new Step(v[0], v[1], false));
            } else {
                read.walkers.add(new Walker(v[0], v[1], v[2], v[3]));
            }
        }
        now = read;
        before.clear();
        return now.steps.size();
    }

    private int faulty(int number, Token t) {
        fault = number;
        return -1000100 - t.at;
    }

    int fault() {
        return fault;
    }

    private boolean isStep(int step) {
        return now != null && in(step, 0, now.steps.size() - 1);
    }

    private boolean isWalker(int walker) {
        return now != null && in(walker, 0, now.walkers.size() - 1);
    }

    private void act(int step, Step s) {
        before.addLast(now);
        if (before.size() > 24) {
            before.removeFirst();
        }
        now = now.with(step, s);
    }

    int price(int step, int v) {
        if (!isStep(step) || !in(v, 0, 20)) {
            return BAD;
        }
        Step s = now.steps.get(step);
        act(step, new Step(s.owner, v, s.broken));
        return s.asks;
    }

    int sell(int step, int owner) {
        if (!isStep(step) || !in(owner, 0, 4) || now.steps.get(step).owner == owner) {
            return BAD;
        }
        Step s = now.steps.get(step);
        act(step, new Step(owner, s.asks, s.broken));
        return s.owner;
    }

    int crack(int step, int is) {
        if (!isStep(step) || !in(is, 0, 1)) {
            return BAD;
        }
        Step s = now.steps.get(step);
        act(step, new Step(s.owner, s.asks, is == 1));
        return s.broken ? 1 : 0;
    }

    int undo() {
        if (before.isEmpty()) {
            return STATE;
        }
        now = before.removeLast();
        return before.size();
    }

    int step(int step, int what) {
        if (!isStep(step) || !in(what, 0, 2)) {
            return BAD;
        }
        Step s = now.steps.get(step);
        return what == 0 ? s.owner : what == 1 ? s.asks : s.broken ? 1 : 0;
    }

    private static void list(Stair stair, int at, int reach, List<Integer> so, List<List<Integer>> into) {
        for (int to = at + 1; to <= at + reach; to++) {
            if (to >= stair.steps.size()) {
                into.add(new ArrayList<>(so));
                return;
            }
            if (!stair.steps.get(to).broken) {
                so.add(to);
                list(stair, to, reach, so, into);
                so.remove(so.size() - 1);
            }
        }
    }

    /** null if there is none. */
    private static List<Integer> theWay(Stair stair, Walker w) {
        List<List<Integer>> all = new ArrayList<>();
        list(stair, -1, w.reach, new ArrayList<>(), all);
        List<Integer> first = null;
        for (List<Integer> way : all) {
            if (first == null || isAhead(stair, way, first)) {
                first = way;
            }
        }
        return first;
    }

    private static boolean isAhead(Stair stair, List<Integer> a, List<Integer> b) {
        if (stair.asks(a) != stair.asks(b)) {
            return stair.asks(a) < stair.asks(b);
        }
        if (a.size() != b.size()) {
            return a.size() < b.size();
        }
        for (int i = 0; i < a.size(); i++) {
            if (!a.get(i).equals(b.get(i))) {
                return a.get(i) < b.get(i);
            }
        }
        return false;
    }

    private static int cost(Stair stair, Walker w, List<Integer> way) {
        return stair.asks(way) * (1 + w.load);
    }

    private static boolean goes(Stair stair, Walker w, List<Integer> way) {
        return way != null && cost(stair, w, way) <= w.worth;
    }

    int way(int walker, int k) {
        if (!isWalker(walker) || k < -3) {
            return BAD;
        }
        Walker w = now.walkers.get(walker);
        List<Integer> way = theWay(now, w);
        if (k == -3) {
            return goes(now, w, way) ? 1 : 0;
        }
        if (way == null) {
            return k == -1 ? 0 : NONE;
        }
        if (k == -2) {
            return cost(now, w, way);
        }
        return k == -1 ? way.size() : k < way.size() ? way.get(k) : NONE;
    }

    private static int taken(Stair stair, int owners) {
        int sum = 0;
        for (Walker w : stair.walkers) {
            List<Integer> way = theWay(stair, w);
            if (goes(stair, w, way)) {
                for (int i : way) {
                    Step s = stair.steps.get(i);
                    sum += (owners >> s.owner & 1) * s.asks * (1 + w.load) * w.folk;
                }
            }
        }
        return sum;
    }

    int takes(int owner) {
        return now == null ? STATE : !in(owner, 0, 4) ? BAD : taken(now, 1 << owner);
    }

    // ---- foretold

    private static boolean ownAny(Stair stair, int owners) {
        return stair.steps.stream().anyMatch(s -> (owners >> s.owner & 1) == 1);
    }

    private static int bestAsking(Stair stair, int owners) {
        int best = 0;
        for (int v = 1; v <= 20; v++) {
            if (taken(stair.askingOf(owners, v), owners) > taken(stair.askingOf(owners, best), owners)) {
                best = v;
            }
        }
        return best;
    }

    private static int bestTaken(Stair stair, int owners) {
        return taken(stair.askingOf(owners, bestAsking(stair, owners)), owners);
    }

    int best(int owners, int what) {
        if (now == null) {
            return STATE;
        }
        if (!in(owners, 1, 31) || !in(what, 0, 1)) {
            return BAD;
        }
        if (!ownAny(now, owners)) {
            return NONE;
        }
        return what == 0 ? bestAsking(now, owners) : Math.max(0, bestTaken(now, owners) - taken(now, owners));
    }

    int turnsOf(int owner) {
        if (now == null) {
            return STATE;
        }
        if (!in(owner, -1, 4)) {
            return BAD;
        }
        Stair at = now;
        int rounds = NONE;
        for (int round = 1; round <= 20 && rounds == NONE; round++) {
            Stair ahead = at;
            boolean changed = false;
            for (int o = 0; o < 5; o++) {
                if (ownAny(at, 1 << o)) {
                    Stair other = at.askingOf(1 << o, bestAsking(at, 1 << o));
                    changed |= !other.steps.equals(at.steps);
                    at = other;
                }
            }
            if (!changed) {
                rounds = round;
            }
        }
        if (owner == -1) {
            return rounds;
        }
        for (Step s : at.steps) {
            if (s.owner == owner) {
                return s.asks;
            }
        }
        return NONE;
    }

    int shares(int a, int b, int c, int k) {
        if (now == null) {
            return STATE;
        }
        if (!in(a, 0, 4) || !in(b, 0, 4) || !in(c, 0, 4) || a == b || a == c || b == c || !in(k, 0, 2)) {
            return BAD;
        }
        int va = bestTaken(now, 1 << a), vb = bestTaken(now, 1 << b), vc = bestTaken(now, 1 << c);
        int vab = bestTaken(now, 1 << a | 1 << b), vac = bestTaken(now, 1 << a | 1 << c);
        int vbc = bestTaken(now, 1 << b | 1 << c), all = bestTaken(now, 1 << a | 1 << b | 1 << c);
        for (int x = 0; x <= all; x++) {
            for (int y = 0; y <= all - x; y++) {
                int z = all - x - y;
                if (x >= va && y >= vb && z >= vc && x + y >= vab && x + z >= vac && y + z >= vbc) {
                    return k == 0 ? x : k == 1 ? y : z;
                }
            }
        }
        return NONE;
    }

    int planks(int walker) {
        if (!isWalker(walker)) {
            return BAD;
        }
        List<List<Integer>> all = new ArrayList<>();
        list(now, -1, now.walkers.get(walker).reach, new ArrayList<>(), all);
        return all.stream().mapToInt(way -> (int) way.stream().filter(i -> now.steps.get(i).asks > 0).count())
                .min().orElse(NONE);
    }

    int mean(int owner, int what) {
        if (now == null) {
            return STATE;
        }
        if (!in(owner, 0, 4) || !in(what, 0, 1)) {
            return BAD;
        }
        int folk = now.walkers.stream().mapToInt(w -> w.folk).sum();
        if (folk == 0) {
            return NONE;
        }
        int above = taken(now, 1 << owner), below = folk;
        for (int d = 2; d <= folk; d++) {
            while (above % d == 0 && below % d == 0) {
                above /= d;
                below /= d;
            }
        }
        return what == 0 ? above : below;
    }

    int asked(int walker, int row, int n, int k, int sum, int what) {
        if (!isWalker(walker) || !in(row, 0, 7) || !in(n, 1, 18) || !in(k, 0, n - 1) || !in(sum, 0, 9999)
                || !in(what, 0, 1)) {
            return BAD;
        }
        if (rows[row] == null) {
            return finding(1);
        }
        if (n > rows[row].items.length) {
            return finding(2);
        }
        List<Integer> told = new ArrayList<>();
        for (int i = 0; i < n; i++) {
            int step = rows[row].items[i];
            if (!isStep(step) || i > 0 && told.get(i - 1) >= step) {
                return BAD;
            }
            told.add(step);
        }
        Walker w = now.walkers.get(walker);
        int many = 0, least = NONE;
        for (int v = 20; v >= 0; v--) {
            Step s = now.steps.get(told.get(k));
            Stair other = now.with(told.get(k), new Step(s.owner, v, s.broken));
            if (told.equals(theWay(other, w)) && cost(other, w, told) == sum && sum <= w.worth) {
                many++;
                least = v;
            }
        }
        return fine(what == 0 ? many : least);
    }

    int deal(int step, int owner, int what) {
        if (!isStep(step) || !in(owner, 0, 4) || now.steps.get(step).owner == owner || !in(what, 0, 1)) {
            return BAD;
        }
        Step s = now.steps.get(step);
        Stair sold = now.with(step, new Step(owner, s.asks, s.broken));
        return what == 0 ? taken(sold, 1 << owner) - taken(now, 1 << owner)
                : bestTaken(sold, 1 << owner) - bestTaken(now, 1 << owner);
    }

    int image(int k) {
        if (!in(k, 0, 1)) {
            return BAD;
        }
        if (now == null) {
            return STATE;
        }
        images[k] = now;
        return 1;
    }

    int restore(int k) {
        if (!in(k, 0, 1)) {
            return BAD;
        }
        if (images[k] == null) {
            return STATE;
        }
        now = images[k];
        before.clear();
        return 1;
    }

    // ---- asked

    private abstract class Told {
        final int number;
        final Step s;

        Told(int number) {
            this.number = number;
            this.s = now.steps.get(number);
        }

        int size() {
            trace.add(10);
            return s.asks;
        }

        int mark() {
            trace.add(20);
            return number;
        }
    }

    private class Paid extends Told {
        Paid(int number) {
            super(number);
        }

        @Override int size() {
            trace.add(11);
            return super.size() + mark();
        }

        @Override int mark() {
            trace.add(21);
            return super.mark() + 10 * s.owner;
        }
    }

    private final class Dear extends Paid {
        Dear(int number) {
            super(number);
        }

        @Override int size() {
            trace.add(12);
            return -super.size();
        }

        @Override int mark() {
            trace.add(24);
            return super.mark() * 2;
        }
    }

    private final class Joint extends Paid {
        Joint(int number) {
            super(number);
        }

        @Override int mark() {
            trace.add(22);
            return super.mark() - 1000;
        }
    }

    private class Free extends Told {
        Free(int number) {
            super(number);
        }

        @Override int size() {
            trace.add(13);
            return super.size() - 100;
        }

        @Override int mark() {
            trace.add(23);
            return super.mark() - size();
        }
    }

    private final class Broken extends Free {
        Broken(int number) {
            super(number);
        }

        @Override int size() {
            trace.add(14);
            return super.size() * 2;
        }
    }

    private Told told(int step) {
        Step s = now.steps.get(step);
        if (s.broken) {
            return new Broken(step);
        }
        if (s.asks == 0) {
            return new Free(step);
        }
        if (s.asks >= 10) {
            return new Dear(step);
        }
        boolean joint = step + 1 < now.steps.size() && now.steps.get(step + 1).owner == s.owner;
        return joint ? new Joint(step) : new Paid(step);
    }

    private static final Class<?>[] KINDS = {Told.class, Paid.class, Dear.class, Joint.class, Free.class, Broken.class};

    int kind(int step) {
        return isStep(step) ? Arrays.asList(KINDS).indexOf(told(step).getClass()) : BAD;
    }

    int as(int step, int kind) {
        if (!isStep(step) || !in(kind, 0, 5)) {
            return BAD;
        }
        return KINDS[kind].isInstance(told(step)) ? fine(step) : finding(3);
    }

    int ask(int step, int what) {
        if (!isStep(step) || !in(what, 0, 1)) {
            return BAD;
        }
        trace.clear();
        return what == 0 ? told(step).size() : told(step).mark();
    }

    int trace(int i) {
        return in(i, 0, Math.min(16, trace.size()) - 1) ? trace.get(i) : NONE;
    }

    int count(int what) {
        switch (what) {
            case 0: return (int) Arrays.stream(rows).filter(r -> r != null).count();
            case 1: return now == null ? 0 : now.steps.size();
            case 2: return now == null ? 0 : now.walkers.size();
            case 3: return now == null ? 0 : (int) now.steps.stream().filter(s -> s.broken).count();
            case 4: return before.size();
            case 5: return tape.length();
            default: return BAD;
        }
    }

    int status() {
        return status;
    }
}
