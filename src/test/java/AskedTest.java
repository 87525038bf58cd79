/** Promises 25 to 29: kinds, asks, the trace, counts. */
public final class AskedTest {
    private static final int NONE = -1000000, BAD = -1000001, KIND = -1000013;
    /** 0 JOINT, 1 DEAR (and joint), 2 PAID, 3 FREE, 4 BROKEN in a moment. */
    private static final String KINDS = "step 2 9;step 2 10;step 2 1;step 1 0;step 1 7;";
    private static final Check c = new Check("AskedTest");

    public static void main(String[] args) {
        promise25();
        promise26();
        promises27And28();
        promise29();
        c.end();
    }

    private static StairTolls kinds() {
        StairTolls x = Check.with(KINDS);
        x.crack(4, 1);
        return x;
    }

    private static void promise25() {
        StairTolls x = kinds();
        c.due("JOINT", x.kind(0), 3);
        c.due("DEAR ahead of JOINT", x.kind(1), 2);
        c.due("PAID", x.kind(2), 1);
        c.due("FREE", x.kind(3), 4);
        c.due("BROKEN", x.kind(4), 5);
        x.crack(3, 1);
        c.due("BROKEN ahead of FREE", x.kind(3), 5);
        x.crack(4, 0);
        c.due("the last has none above", x.kind(4), 1);
        x.crack(1, 1);
        c.due("a broken one above is one", x.kind(0), 3);
        c.due("step 5", x.kind(5), BAD);
        c.due("step -1", x.kind(-1), BAD);
    }

    private static void promise26() {
        // a row a step: which kinds it is
        int[][] is = {{1, 1, 0, 1, 0, 0}, {1, 1, 1, 0, 0, 0}, {1, 1, 0, 0, 0, 0}, {1, 0, 0, 0, 1, 0}, {1, 0, 0, 0, 1, 1}};
        StairTolls x = kinds();
        for (int s = 0; s < 5; s++) {
            for (int k = 0; k < 6; k++) {
                c.due("as(" + s + ", " + k + ")", x.as(s, k), is[s][k] == 1 ? s : KIND);
            }
        }
        c.due("kind 6", x.as(0, 6), BAD);
        c.due("kind -1", x.as(0, -1), BAD);
        c.due("step 5", x.as(5, 0), BAD);
        c.due("step -1", x.as(-1, 0), BAD);
    }

    private static void asks(StairTolls x, int step, int what, int answer, int... bodies) {
        String call = "ask(" + step + ", " + what + ")";
        c.due(call, x.ask(step, what), answer);
        for (int i = 0; i < bodies.length; i++) {
            c.due(call + " trace " + i, x.trace(i), bodies[i]);
        }
        c.due(call + " trace ends", x.trace(bodies.length), NONE);
    }

    private static void promises27And28() {
        StairTolls x = kinds();
        asks(x, 0, 0, 9 + 0 + 20 - 1000, 11, 10, 22, 21, 20);
        asks(x, 0, 1, 0 + 20 - 1000, 22, 21, 20);
        asks(x, 1, 0, -(10 + 2 * 21), 12, 11, 10, 24, 21, 20);
        asks(x, 1, 1, 2 * 21, 24, 21, 20);
        asks(x, 2, 0, 1 + 22, 11, 10, 21, 20);
        asks(x, 2, 1, 22, 21, 20);
        asks(x, 3, 0, -100, 13, 10);
        asks(x, 3, 1, 3 + 100, 23, 20, 13, 10);
        asks(x, 4, 0, 2 * (7 - 100), 14, 13, 10);
        asks(x, 4, 1, 4 - 2 * (7 - 100), 23, 20, 14, 13, 10);
        c.due("step 5", x.ask(5, 0), BAD);
        c.due("what 2", x.ask(0, 2), BAD);
        c.due("what -1", x.ask(0, -1), BAD);
        c.due("BAD leaves the trace", x.trace(0), 23);
        c.due("trace -1", x.trace(-1), NONE);
        c.due("trace 16", x.trace(16), NONE);
        c.due("trace far", x.trace(Integer.MAX_VALUE), NONE);
    }

    private static void promise29() {
        StairTolls x = Check.with("step 0 1;step 1 2;walker 1 0 9 1;");
        x.row(0, 0, 3);
        x.row(5, 0, 0);
        x.row(6, 1, 1);
        x.crack(1, 1);
        x.price(0, 3);
        x.price(0, 4);
        x.crack(0, 1);
        x.feed(0, 5);
        int[] due = {3, 2, 1, 2, 4, 5};
        for (int what = 0; what < 6; what++) {
            c.due("count(" + what + ")", x.count(what), due[what]);
        }
        c.due("count(6)", x.count(6), BAD);
        c.due("count(-1)", x.count(-1), BAD);
    }
}
