/** Boundary cases of kinds, asks, the trace and counts, sentence by sentence: Terms 3 and 4, promises 25 to 29. */
public final class AskedEdgesTest {
    private static final int NONE = -1000000, BAD = -1000001, KIND = -1000013;
    private static final int MIN = Integer.MIN_VALUE, MAX = Integer.MAX_VALUE;
    private static final int PAID = 1, DEAR = 2, JOINT = 3, FREE = 4, BROKEN = 5;
    private static final Check c = new Check("AskedEdgesTest");

    public static void main(String[] args) {
        paidFreeAndDear();
        joint();
        broken();
        firstThatFits();
        kindsRefused();
        takenAs();
        asRefused();
        sizes();
        marks();
        nearestKind();
        askedAnew();
        traceOfAsk();
        numbersInTheTrace();
        traceLimits();
        counts();
        countsAtMost();
        newObject();
        usedFor512Calls();
        c.end();
    }

    private static StairTolls asking(int v) {
        return Check.with("step 2 " + v + ";step 1 0;");
    }

    private static void paidFreeAndDear() {
        c.says("0 STEP; 1 PAID, a STEP: it ASKS 1 and more; 2 DEAR, a PAID one: 10 and more");
        int[][] due = {{0, FREE}, {1, PAID}, {2, PAID}, {9, PAID}, {10, DEAR}, {11, DEAR}, {20, DEAR}};
        for (int[] d : due) {
            c.due("asks " + d[0], asking(d[0]).kind(0), d[1]);
        }
        StairTolls x = asking(9);
        x.price(0, 10);
        c.due("9, then 10", x.kind(0), DEAR);
        x.undo();
        c.due("9 again", x.kind(0), PAID);
    }

    private static void joint() {
        c.says("3 JOINT, a PAID one: the STEP above has the same OWNER");
        StairTolls x = Check.with("step 0 1;step 0 1;step 1 1;step 1 0;step 1 9;step 1 9;");
        int[] due = {JOINT, PAID, JOINT, FREE, JOINT, PAID};
        for (int s = 0; s < 6; s++) {
            c.due("step " + s, x.kind(s), due[s]);
        }
        x.crack(1, 1);
        c.due("below a broken one", x.kind(0), JOINT);
        x.sell(1, 4);
        c.due("below another's", x.kind(0), PAID);
        x.sell(5, 4);
        c.due("below another's", x.kind(4), PAID);
        c.due("the topmost of 18", Check.with("step 0 1;".repeat(18)).kind(17), PAID);
        c.due("the one below it", Check.with("step 0 1;".repeat(18)).kind(16), JOINT);
        // the stair before had a step above, of the same owner
        StairTolls y = Check.with("step 0 1;step 0 1;");
        Check.feed(y, "step 0 1;");
        y.stair();
        c.due("the only one", y.kind(0), PAID);
    }

    private static void broken() {
        c.says("4 FREE, a STEP: it ASKS 0; 5 BROKEN, a FREE one.");
        for (int v : new int[] {0, 1, 9, 10, 20}) {
            StairTolls x = asking(v);
            x.crack(0, 1);
            c.due("broken, asks " + v, x.kind(0), BROKEN);
            c.due("it is a free one", x.as(0, FREE), 0);
            c.due("it is no paid one", x.as(0, PAID), KIND);
            x.crack(0, 0);
            c.holds("mended, asks " + v, x.kind(0) != BROKEN);
        }
    }

    private static void firstThatFits() {
        c.says("It is told as BROKEN, FREE, DEAR, JOINT, PAID, the first that fits: by this it is asked.");
        StairTolls x = Check.with("step 0 10;step 0 9;step 0 0;step 0 5;");
        c.due("DEAR ahead of JOINT", x.kind(0), DEAR);
        c.due("JOINT ahead of PAID", x.kind(1), JOINT);
        c.due("FREE, whoever is above", x.kind(2), FREE);
        c.due("DEAR is asked", x.ask(0, 1), 0);
        c.due("its body", x.trace(0), 24);
        x.crack(0, 1);
        c.due("BROKEN ahead of DEAR", x.kind(0), BROKEN);
        x.crack(1, 1);
        c.due("BROKEN ahead of JOINT", x.kind(1), BROKEN);
        x.crack(2, 1);
        c.due("BROKEN ahead of FREE", x.kind(2), BROKEN);
        c.due("BROKEN is asked", x.ask(2, 0), -200);
        c.due("its body", x.trace(0), 14);
    }

    private static void kindsRefused() {
        c.says("The KIND of a STEP, as told (1 to 5). BAD.");
        StairTolls x = Check.with("step 0 1;step 1 1;");
        c.due("the last", x.kind(1), PAID);
        for (int wrong : new int[] {-1, 2, 18, MIN, MAX}) {
            c.due("step " + wrong, x.kind(wrong), BAD);
            c.due("no stair", new StairTolls().kind(wrong), BAD);
        }
    }

    /** 0 JOINT, 1 DEAR below one of the same owner, 2 PAID, 3 FREE, 4 BROKEN, which asks 12. */
    private static StairTolls all() {
        StairTolls x = Check.with("step 2 9;step 2 10;step 2 1;step 1 0;step 1 12;");
        x.crack(4, 1);
        return x;
    }

    private static void takenAs() {
        c.says("A STEP is taken as one of a KIND (0 .. 5): its number.");
        int[][] is = {{1, 1, 0, 1, 0, 0}, {1, 1, 1, 0, 0, 0}, {1, 1, 0, 0, 0, 0}, {1, 0, 0, 0, 1, 0}, {1, 0, 0, 0, 1, 1}};
        StairTolls x = all();
        for (int s = 0; s < 5; s++) {
            for (int k = 0; k < 6; k++) {
                c.due("as(" + s + ", " + k + ")", x.as(s, k), is[s][k] == 1 ? s : KIND);
                c.due("status", x.status(), is[s][k] == 1 ? 0 : 3);
            }
        }
    }

    private static void asRefused() {
        c.says("BAD; KIND: it is no such one.");
        StairTolls x = all();
        x.as(0, FREE);
        for (int wrong : new int[] {-1, 6, MIN, MAX}) {
            c.due("kind " + wrong, x.as(0, wrong), BAD);
        }
        for (int wrong : new int[] {-1, 5, 18, MIN, MAX}) {
            c.due("step " + wrong, x.as(wrong, 0), BAD);
            c.due("no stair", new StairTolls().as(wrong, 0), BAD);
        }
        c.due("BAD leaves status", x.status(), 3);
    }

    private static void asks(StairTolls x, int step, int what, int answer, int... bodies) {
        String call = "ask(" + step + ", " + what + ")";
        c.due(call, x.ask(step, what), answer);
        for (int i = 0; i < 16; i++) {
            c.due(call + " trace " + i, x.trace(i), i < bodies.length ? bodies[i] : NONE);
        }
    }

    private static void sizes() {
        c.says("0 SIZE: 10 lent to all STEPS: what it ASKS. 11 of PAID ones: what 10 gives, and MARK. 12 of DEAR ones:"
                + " 0 less what 11 gives. 13 of FREE ones: what 10 gives, less 100. 14 of BROKEN ones: what 13 gives, twice.");
        asks(all(), 2, 0, 1 + 22, 11, 10, 21, 20);
        asks(all(), 1, 0, -(10 + 42), 12, 11, 10, 24, 21, 20);
        asks(all(), 3, 0, -100, 13, 10);
        asks(all(), 4, 0, 2 * (12 - 100), 14, 13, 10);
        asks(asking(20), 0, 0, -(20 + 2 * 20), 12, 11, 10, 24, 21, 20);
    }

    private static void marks() {
        c.says("1 MARK: 20 lent to all STEPS: its number. 21 of PAID ones: what 20 gives, and 10 times its OWNER. 22 of"
                + " JOINT ones: what 21 gives, less 1000. 23 of FREE ones: what 20 gives, less SIZE. 24 of DEAR ones:"
                + " what 21 gives, twice.");
        asks(all(), 2, 1, 22, 21, 20);
        asks(all(), 0, 1, 20 - 1000, 22, 21, 20);
        asks(all(), 3, 1, 3 + 100, 23, 20, 13, 10);
        asks(all(), 1, 1, 2 * 21, 24, 21, 20);
        StairTolls x = Check.with("step 4 20;".repeat(18));
        asks(x, 17, 1, 2 * (17 + 40), 24, 21, 20);
        asks(x, 17, 0, -(20 + 2 * 57), 12, 11, 10, 24, 21, 20);
    }

    private static void nearestKind() {
        c.says("(Of an ask the BODY told for the KIND begins, else that of the nearest KIND that it is, too, else the"
                + " one that is lent");
        // JOINT has no SIZE of its own, but PAID has; BROKEN has no MARK, but FREE has
        asks(all(), 0, 0, 9 + 20 - 1000, 11, 10, 22, 21, 20);
        asks(all(), 4, 1, 4 - 2 * (12 - 100), 23, 20, 14, 13, 10);
    }

    private static void askedAnew() {
        c.says("SIZE, MARK within others are asked of the same STEP anew.)");
        // MARK within 11 begins with 22 or 24, SIZE within 23 with 14, not with that of the kind above
        StairTolls x = all();
        x.ask(0, 0);
        c.due("JOINT, within 11", x.trace(2), 22);
        x.ask(1, 0);
        c.due("DEAR, within 11", x.trace(3), 24);
        x.ask(4, 1);
        c.due("BROKEN, within 23", x.trace(2), 14);
    }

    private static void traceOfAsk() {
        c.says("An ASK (0, 1) of a STEP. BAD. THE TRACE is empty ahead of it.");
        StairTolls x = all();
        x.ask(1, 0);
        asks(x, 2, 1, 22, 21, 20);
        for (int wrong : new int[] {-1, 2, MIN, MAX}) {
            c.due("what " + wrong, x.ask(0, wrong), BAD);
        }
        for (int wrong : new int[] {-1, 5, 18, MIN, MAX}) {
            c.due("step " + wrong, x.ask(wrong, 0), BAD);
            c.due("no stair", new StairTolls().ask(wrong, 0), BAD);
        }
        c.due("what is refused leaves the trace", x.trace(0), 21);
        c.due("what is refused leaves the trace", x.trace(2), NONE);
        x.kind(1);
        x.as(1, 2);
        c.due("only asks leave numbers", x.trace(0), 21);
    }

    private static void numbersInTheTrace() {
        c.says("each of which leaves its number in THE TRACE as it begins (the first 16)");
        // of all asks that of a DEAR one's SIZE is the longest, so the room for 16 is never filled
        for (int s = 0; s < 5; s++) {
            for (int what = 0; what < 2; what++) {
                StairTolls x = all();
                x.ask(s, what);
                int first = x.trace(0);
                c.holds("begins with one of its ask", first / 10 == what + 1 && first % 10 > 0);
                int last = NONE;
                for (int i = 0; i < 16 && x.trace(i) != NONE; i++) {
                    last = x.trace(i);
                }
                c.holds("ends with one that is lent", last == 10 || last == 20);
                c.due("six at most", x.trace(6), NONE);
            }
        }
    }

    private static void traceLimits() {
        c.says("Number i of THE TRACE; NONE.");
        StairTolls x = all();
        c.due("before an ask", x.trace(0), NONE);
        x.ask(1, 0);
        c.due("the first", x.trace(0), 12);
        c.due("the last", x.trace(5), 20);
        for (int i : new int[] {-1, 6, 15, 16, 17, MIN, MAX}) {
            c.due("trace(" + i + ")", x.trace(i), NONE);
        }
    }

    private static void counts() {
        c.says("How many: 0 ROWS, 1 STEPS, 2 WALKERS, 3 BROKEN ones, 4 ACTS that can be undone, 5 bytes on the tape. BAD.");
        StairTolls x = Check.with("step 0 1;step 0 1;step 0 1;step 0 1;walker 1 0 9 1;walker 1 0 9 1;");
        x.row(5, 0, 0);
        x.crack(0, 1);
        x.crack(1, 1);
        x.crack(2, 1);
        x.crack(2, 0);
        x.price(0, 3);
        x.feed(0, 6);
        int[] due = {1, 4, 2, 2, 5, 6};
        for (int what = 0; what < 6; what++) {
            c.due("count(" + what + ")", x.count(what), due[what]);
        }
        for (int wrong : new int[] {-1, 6, MIN, MAX}) {
            c.due("count(" + wrong + ")", x.count(wrong), BAD);
        }
        x.row(5, 0, 3);
        c.due("a row in place of one", x.count(0), 1);
        x.undo();
        x.undo();
        c.due("broken, behind undo", x.count(3), 3);
        c.due("acts, behind undo", x.count(4), 3);
    }

    private static void countsAtMost() {
        StairTolls x = Check.with("step 0 1;".repeat(18) + "walker 1 0 9 1;".repeat(6));
        for (int row = 0; row < 8; row++) {
            x.row(row, 0, 40);
        }
        for (int s = 0; s < 18; s++) {
            x.crack(s, 1);
        }
        for (int s = 0; s < 18; s++) {
            x.price(s, 2);
        }
        for (int i = 0; i < 50; i++) {
            x.feed(0, 8);
        }
        int[] due = {8, 18, 6, 18, 24, 400};
        for (int what = 0; what < 6; what++) {
            c.due("at most, count(" + what + ")", x.count(what), due[what]);
        }
    }

    private static void newObject() {
        c.says("`StairTolls()`: No STAIR.");
        StairTolls x = new StairTolls();
        for (int what = 0; what < 6; what++) {
            c.due("count(" + what + ")", x.count(what), 0);
        }
        c.due("takes", x.takes(0), StairTolls.STATE);
        c.due("image", x.image(0), StairTolls.STATE);
        c.due("restore", x.restore(0), StairTolls.STATE);
        c.due("undo", x.undo(), StairTolls.STATE);
        c.due("step", x.step(0, 0), BAD);
        c.due("way", x.way(0, 0), BAD);
        c.due("fault", x.fault(), 0);
        c.due("status", x.status(), 0);
        c.due("trace", x.trace(0), NONE);
        c.due("nothing on the tape", x.stair(), -1000100);
        StairTolls full = all();
        StairTolls other = new StairTolls();
        c.due("another object has none", other.count(1), 0);
        c.due("this one has", full.count(1), 5);
    }

    private static void usedFor512Calls() {
        c.says("An object is used for at most 512 calls after it has been made");
        StairTolls x = new StairTolls();
        Check.feed(x, "step 0 1;walker 1 0 9 2;");
        x.stair();
        int calls = 4;
        while (calls < 508) {
            c.due("call " + calls, x.price(0, 1 + (calls + 1) % 9), 1 + (calls == 4 ? 0 : calls % 9));
            calls++;
        }
        c.due("call 509", x.takes(0), 2 * (1 + 508 % 9));
        c.due("call 510", x.undo(), 23);
        c.due("call 511", x.row(7, 2, 40), 40);
        c.due("call 512", x.step(0, 1), 1 + 507 % 9);
    }
}
