import java.util.Random;

/** Random runs of calls, right and wrong ones, on StairTolls and on the model: every answer is the same. */
public final class ModelTest {
    private static final int RUNS = 120;
    private static final int CALLS = 500;
    private static final int BIG_RUNS = 6;
    private static final int[] WILD = {-1, -2, -3, -4, 3, 5, 6, 8, 18, 19, 21, 31, 32, 40, 41, 255, 400, 9999, 10000,
        65536, Integer.MAX_VALUE, Integer.MIN_VALUE, Integer.MAX_VALUE - 1};
    private static final Check c = new Check("ModelTest");

    private final Random r;
    private final int run;
    private final int mostSteps;
    private StairTolls x = new StairTolls();
    private Model m = new Model();

    private ModelTest(int run) {
        this.run = run;
        this.r = new Random(run);
        this.mostSteps = run % 40 == 0 ? 13 : 7;
    }

    public static void main(String[] args) {
        for (int run = 0; run < RUNS; run++) {
            ModelTest t = new ModelTest(run);
            for (int call = 0; call < CALLS; call++) {
                t.call(call < 12 ? r(t, 0, 8) : r(t, 0, 31));
            }
        }
        for (int run = 0; run < BIG_RUNS; run++) {
            new ModelTest(1000 + run).big();
        }
        c.end();
    }

    /** The largest stairs: the model lists some 66,000 ways a walker there, so little is asked of it. */
    private void big() {
        StringBuilder t = new StringBuilder();
        for (int i = 0; i < 18; i++) {
            t.append("step ").append(r.nextInt(5)).append(' ').append(r.nextInt(run % 2 == 0 ? 21 : 3)).append(';');
        }
        for (int reach = 1; reach <= 3; reach++) {
            t.append("walker ").append(reach).append(" 1 200 ").append(reach).append(";");
        }
        feedBoth(t);
        for (int cracks = 0; cracks < 3; cracks++) {
            for (int walker = 0; walker < 3; walker++) {
                for (int k = -3; k < 19; k++) {
                    same("big way", x.way(walker, k), m.way(walker, k));
                }
                same("big planks", x.planks(walker), m.planks(walker));
            }
            for (int owner = 0; owner < 5; owner++) {
                same("big takes", x.takes(owner), m.takes(owner));
            }
            int step = r.nextInt(18);
            same("big crack", x.crack(step, 1), m.crack(step, 1));
        }
    }

    private static int r(ModelTest t, int low, int high) {
        return low + t.r.nextInt(high - low);
    }

    /** Mostly from low to high, both with them, now and then anything. */
    private int num(int low, int high) {
        return r.nextInt(25) == 0 ? WILD[r.nextInt(WILD.length)] : low + r.nextInt(high - low + 1);
    }

    private int stepNum() {
        int n = m.count(1);
        return num(0, Math.max(0, n - 1));
    }

    private int walkerNum() {
        int n = m.count(2);
        return num(0, Math.max(0, n - 1));
    }

    private void same(String call, int got, int want) {
        c.due("run " + run + ": " + call, got, want);
    }

    private void call(int which) {
        int a, b, d, e, f, g;
        switch (which) {
            case 0: a = num(0, 3); b = num(0, 2); d = num(0, 6); same("row", x.row(a, b, d), m.row(a, b, d)); break;
            case 1: case 2: a = num(0, 3); b = num(0, 6); d = r.nextBoolean() ? num(0, 7) : r.nextInt();
                same("set", x.set(a, b, d), m.set(a, b, d)); break;
            case 3: a = num(0, 3); b = num(0, 4); d = num(0, 3); e = num(0, 4); f = num(0, 4);
                same("copy", x.copy(a, b, d, e, f), m.copy(a, b, d, e, f)); break;
            case 4: if (r.nextInt(3) == 0) { a = num(0, 3); same("drop", x.drop(a), m.drop(a)); } break;
            case 5: { long w = r.nextLong(); a = num(1, 8); if (r.nextInt(4) == 0) { same("feed", x.feed(w, a), m.feed(w, a)); } break; }
            case 6: case 7: if (m.count(1) == 0 || r.nextInt(4) == 0) { text(); } break;
            case 8: same("fault", x.fault(), m.fault()); break;
            case 9: a = stepNum(); b = num(0, 20); same("price", x.price(a, b), m.price(a, b)); break;
            case 10: a = stepNum(); b = num(0, 4); same("sell", x.sell(a, b), m.sell(a, b)); break;
            case 11: a = stepNum(); b = r.nextInt(4) == 0 ? 1 : num(0, 1);
                same("crack", x.crack(a, b), m.crack(a, b)); break;
            case 12: same("undo", x.undo(), m.undo()); break;
            case 13: a = stepNum(); b = num(0, 2); same("step", x.step(a, b), m.step(a, b)); break;
            case 14: case 15: a = walkerNum(); b = num(-3, 4); same("way", x.way(a, b), m.way(a, b)); break;
            case 16: a = num(0, 4); same("takes", x.takes(a), m.takes(a)); break;
            case 17: a = num(1, 31); b = num(0, 1); same("best", x.best(a, b), m.best(a, b)); break;
            case 18: if (r.nextInt(3) == 0) { a = num(-1, 4); same("turnsOf", x.turnsOf(a), m.turnsOf(a)); } break;
            case 19: if (r.nextInt(2) == 0) { a = num(0, 4); b = num(0, 4); d = num(0, 4); e = num(0, 2);
                same("shares", x.shares(a, b, d, e), m.shares(a, b, d, e)); } break;
            case 20: a = walkerNum(); same("planks", x.planks(a), m.planks(a)); break;
            case 21: a = num(0, 4); b = num(0, 1); same("mean", x.mean(a, b), m.mean(a, b)); break;
            case 22: case 23: askedOfWay(); break;
            case 24: a = walkerNum(); b = num(0, 3); d = num(1, 3); e = num(0, 2); f = num(0, 30); g = num(0, 1);
                same("asked", x.asked(a, b, d, e, f, g), m.asked(a, b, d, e, f, g)); break;
            case 25: a = stepNum(); b = num(0, 4); d = num(0, 1); same("deal", x.deal(a, b, d), m.deal(a, b, d)); break;
            case 26: a = num(0, 1); if (r.nextBoolean()) { same("image", x.image(a), m.image(a)); }
                else { same("restore", x.restore(a), m.restore(a)); } break;
            case 27: a = stepNum(); same("kind", x.kind(a), m.kind(a)); break;
            case 28: a = stepNum(); b = num(0, 5); same("as", x.as(a, b), m.as(a, b)); break;
            case 29: a = stepNum(); b = num(0, 1); same("ask", x.ask(a, b), m.ask(a, b));
                for (int i = -1; i < 17; i++) { same("trace", x.trace(i), m.trace(i)); } break;
            default: a = num(0, 5); same("count", x.count(a), m.count(a)); break;
        }
        same("status", x.status(), m.status());
    }

    /** What a walker really goes is put into a row, so that askings fit now and then. */
    private void askedOfWay() {
        int walker = Math.max(0, walkerNum());
        int n = m.way(walker, -1);
        if (n < 1) {
            return;
        }
        x.row(0, 1, n);
        m.row(0, 1, n);
        for (int i = 0; i < n; i++) {
            x.set(0, i, m.way(walker, i));
            m.set(0, i, m.way(walker, i));
        }
        int k = num(0, n - 1);
        int sum = m.way(walker, -2) + (r.nextBoolean() ? 0 : r.nextInt(7) - 3);
        for (int what = 0; what < 2; what++) {
            same("asked of the way", x.asked(walker, 0, n, k, sum, what), m.asked(walker, 0, n, k, sum, what));
        }
    }

    private void text() {
        StringBuilder t = new StringBuilder();
        int steps = 1 + r.nextInt(mostSteps);
        for (int i = 0; i < steps; i++) {
            t.append("step ").append(r.nextInt(5)).append(' ').append(r.nextInt(r.nextBoolean() ? 21 : 6)).append(';');
        }
        int walkers = r.nextInt(7);
        for (int i = 0; i < walkers; i++) {
            t.append("walker ").append(1 + r.nextInt(3)).append(' ').append(r.nextInt(3)).append(' ');
            t.append(r.nextInt(r.nextBoolean() ? 201 : 30)).append(' ').append(1 + r.nextInt(20)).append(";\n");
        }
        for (int i = r.nextInt(4) - 2; i > 0; i--) {
            spoil(t);
        }
        feedBoth(t);
    }

    private void feedBoth(StringBuilder t) {
        for (int i = 0; i < t.length(); i += 8) {
            int n = Math.min(8, t.length() - i);
            long w = r.nextLong();
            for (int j = 0; j < n; j++) {
                w = w << 8 | t.charAt(i + j);
            }
            same("feed", x.feed(w, n), m.feed(w, n));
        }
        same("stair of " + t, x.stair(), m.stair());
        same("fault of " + t, x.fault(), m.fault());
    }

    private void spoil(StringBuilder t) {
        String signs = "0123459 \n;;,stepwalkerA#" + (char) 233 + (char) 0;
        int at = r.nextInt(t.length());
        char sign = signs.charAt(r.nextInt(signs.length()));
        switch (r.nextInt(3)) {
            case 0: t.setCharAt(at, sign); break;
            case 1: t.insert(at, sign); break;
            default: t.deleteCharAt(at); break;
        }
        if (t.length() == 0) {
            t.append(' ');
        }
    }
}
