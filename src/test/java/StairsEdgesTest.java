/** Boundary cases of stairs and acts, sentence by sentence: Terms 2, promises 9 to 15. */
public final class StairsEdgesTest {
    private static final int NONE = -1000000, BAD = -1000001, STATE = -1000002;
    private static final int MIN = Integer.MIN_VALUE, MAX = Integer.MAX_VALUE;
    private static final String FULL = "step 0 20;".repeat(18);
    private static final Check c = new Check("StairsEdgesTest");

    public static void main(String[] args) {
        leapsToReach();
        notOnBroken();
        aboveTheLast();
        costs();
        costsLeast();
        treadsFewest();
        firstBySteps();
        noMoreThanWorth();
        notUp();
        takenFromFolk();
        actsKept();
        latestFirst();
        actsOfEachKind();
        prices();
        sales();
        cracks();
        undone();
        stepsLookedAt();
        waysLookedAt();
        ownersLookedAt();
        c.end();
    }

    private static StairTolls broken(String text, int... steps) {
        StairTolls x = Check.with(text);
        for (int s : steps) {
            x.crack(s, 1);
        }
        return x;
    }

    private static void leapsToReach() {
        c.says("from below STEP 0 up by leaps of 1 to REACH STEPS");
        String six = "step 0 1;".repeat(6);
        c.way(Check.with(six + "walker 1 0 99 1;"), 0, 1, 6, 0, 1, 2, 3, 4, 5);
        c.way(Check.with(six + "walker 2 0 99 1;"), 0, 1, 3, 0, 2, 4);
        c.way(Check.with(six + "walker 3 0 99 1;"), 0, 1, 2, 0, 3);
        // leaps need not be as long as they can be
        c.way(Check.with("step 0 0;step 0 9;step 0 0;step 0 9;step 0 0;walker 3 0 99 1;"), 0, 1, 0, 2);
        c.way(Check.with("step 0 9;step 0 0;step 0 0;step 0 9;step 0 9;walker 3 0 99 1;"), 0, 1, 0, 2);
        c.way(Check.with("step 0 9;step 0 0;step 0 9;step 0 0;step 0 9;step 0 9;walker 3 0 99 1;"), 0, 1, 0, 1, 3);
    }

    private static void notOnBroken() {
        c.says("each on a STEP that is not BROKEN");
        String five = "step 0 1;".repeat(5) + "walker 1 0 99 1;walker 2 0 99 1;walker 3 0 99 1;";
        for (int s = 0; s < 5; s++) {
            StairTolls x = broken(five, s);
            c.due("reach 1 over one", x.way(0, -2), NONE);
            c.holds("reach 2 over one", x.way(1, -2) >= 2);
        }
        for (int s = 0; s < 4; s++) {
            StairTolls x = broken(five, s, s + 1);
            c.due("reach 2 over two", x.way(1, -2), NONE);
            c.holds("reach 3 over two", x.way(2, -2) >= 1);
        }
        for (int s = 0; s < 3; s++) {
            c.due("reach 3 over three", broken(five, s, s + 1, s + 2).way(2, -2), NONE);
        }
        c.way(broken(five, 2), 2, 1, 2, 0, 3);
        c.way(broken(five, 1, 2), 2, 1, 2, 0, 3);
        c.way(broken(five, 0, 3), 1, 1, 3, 1, 2, 4);
        // a broken one that asks nothing is not trodden either
        c.way(broken("step 0 9;step 0 0;walker 2 0 99 1;", 1), 0, 1, 9, 0);
    }

    private static void aboveTheLast() {
        c.says("till he is above the last one");
        c.way(Check.with("step 0 5;walker 1 0 99 1;"), 0, 1, 5, 0);
        c.way(Check.with("step 0 5;walker 2 0 99 1;"), 0, 1, 0);
        c.way(Check.with("step 0 5;walker 3 0 99 1;"), 0, 1, 0);
        c.way(Check.with("step 0 5;step 0 6;walker 2 0 99 1;"), 0, 1, 5, 0);
        c.way(Check.with("step 0 5;step 0 6;walker 3 0 99 1;"), 0, 1, 0);
        c.way(Check.with("step 0 5;step 0 6;step 0 4;walker 3 0 99 1;"), 0, 1, 4, 2);
        c.way(broken("step 0 5;step 0 6;walker 3 0 0 1;", 0, 1), 0, 1, 0);
    }

    private static void costs() {
        c.says("It COSTS what all STEPS that he treads ASK, added, times (1 and LOAD).");
        c.way(Check.with("step 0 3;step 1 4;walker 1 0 99 1;walker 1 1 99 1;walker 1 2 99 1;"), 0, 1, 7, 0, 1);
        c.way(Check.with("step 0 3;step 1 4;walker 1 0 99 1;walker 1 1 99 1;walker 1 2 99 1;"), 1, 1, 14, 0, 1);
        c.way(Check.with("step 0 3;step 1 4;walker 1 0 99 1;walker 1 1 99 1;walker 1 2 99 1;"), 2, 1, 21, 0, 1);
        StairTolls x = Check.with(FULL + "walker 1 2 200 20;walker 1 0 200 1;");
        c.due("the dearest of all", x.way(0, -2), 1080);
        c.due("without a load", x.way(1, -2), 360);
        c.due("its last step", x.way(0, 17), 17);
        c.due("not so many", x.way(0, 18), NONE);
    }

    private static void costsLeast() {
        c.says("THE WAY: that which COSTS least");
        // two free ones against one that asks 1
        c.way(Check.with("step 0 0;step 0 1;step 0 0;walker 2 0 9 1;"), 0, 1, 0, 0, 2);
        // eight free ones against seven, one of which asks 1
        c.way(Check.with("step 0 0;step 0 0;step 0 1;step 0 1;".repeat(4) + "step 0 0;step 0 0;walker 3 0 9 1;"), 0, 1, 0,
                1, 4, 5, 8, 9, 12, 13, 16);
        c.way(Check.with("step 0 20;step 0 19;walker 2 0 99 1;"), 0, 1, 19, 1);
    }

    private static void treadsFewest() {
        c.says("of several that which treads fewest");
        c.way(Check.with("step 0 0;step 0 0;step 0 0;walker 2 0 9 1;"), 0, 1, 0, 1);
        c.way(Check.with("step 0 1;step 0 2;step 0 1;walker 2 0 9 1;"), 0, 1, 2, 1);
        c.way(Check.with("step 0 0;".repeat(5) + "walker 3 0 9 1;"), 0, 1, 0, 2);
    }

    private static void firstBySteps() {
        c.says("of several the first by STEPS");
        c.way(Check.with("step 0 1;step 0 1;walker 2 0 9 1;"), 0, 1, 1, 0);
        c.way(Check.with("step 0 1;step 0 1;step 0 1;step 0 1;walker 2 0 9 1;"), 0, 1, 2, 0, 2);
        // 0 3, 1 3, 1 4, 2 3, 2 4, 2 5 are all alike
        c.way(Check.with("step 0 1;".repeat(6) + "walker 3 0 9 1;"), 0, 1, 2, 0, 3);
        // 1 and 2 are one tread each and alike; 0 alone does not reach above
        c.way(Check.with("step 0 2;step 0 1;step 0 1;step 0 1;walker 3 0 9 1;"), 0, 1, 1, 1);
        // 1 3 and 2 3 are alike, all others ask more
        c.way(Check.with("step 0 2;step 0 1;step 0 1;step 0 1;step 0 2;step 0 2;walker 3 0 9 1;"), 0, 1, 2, 1, 3);
    }

    private static void noMoreThanWorth() {
        c.says("he goes it, if it COSTS no more than WORTH");
        StairTolls x = Check.with("step 0 7;walker 1 0 6 1;walker 1 0 7 1;walker 1 0 8 1;walker 1 2 20 1;walker 1 2 21 1;");
        int[] goes = {0, 1, 1, 0, 1};
        for (int w = 0; w < 5; w++) {
            c.due("walker " + w, x.way(w, -3), goes[w]);
        }
        c.due("free, worth 0", Check.with("step 0 0;walker 1 2 0 1;").way(0, -3), 1);
        c.due("1, worth 0", Check.with("step 0 1;walker 1 0 0 1;").way(0, -3), 0);
        StairTolls y = Check.with("step 0 20;".repeat(10) + "walker 1 0 200 1;walker 1 0 199 1;");
        c.due("200, worth 200", y.way(0, -3), 1);
        c.due("200, worth 199", y.way(1, -3), 0);
    }

    private static void notUp() {
        c.says("he is NOT UP, if there is none, or it COSTS more");
        StairTolls x = Check.with("step 0 9;step 1 9;walker 1 0 17 3;");
        c.way(x, 0, 0, 18, 0, 1);
        c.due("he pays nobody", x.takes(0), 0);
        x.crack(1, 1);
        c.way(x, 0, 0, NONE);
        c.due("he pays nobody", x.takes(0), 0);
        x.crack(1, 0);
        x.price(1, 8);
        c.way(x, 0, 1, 17, 0, 1);
        c.due("he pays", x.takes(0), 27);
    }

    private static void takenFromFolk() {
        c.says("An OWNER TAKES from all FOLK of all WALKERS who go: what his STEPS on THE WAY ASK, times (1 and LOAD),"
                + " times FOLK.");
        StairTolls x = Check.with(FULL + "walker 3 0 120 20;walker 3 0 120 20;walker 3 0 120 20;walker 3 0 119 20;"
                + "walker 3 0 120 20;walker 3 0 120 20;");
        c.due("five of six go", x.takes(0), 5 * 120 * 20);
        StairTolls y = Check.with("step 0 2;step 1 3;step 0 4;walker 1 2 27 5;");
        c.due("two steps of one", y.takes(0), 90);
        c.due("one step of one", y.takes(1), 45);
        c.due("whose step is not there", y.takes(2), 0);
        c.due("no walkers", Check.with("step 0 9;").takes(0), 0);
        c.due("step not on the way", Check.with("step 1 2;step 0 3;walker 2 0 9 1;").takes(0), 0);
    }

    private static void actsKept() {
        c.says("ACTS (24 at most are kept, of more the oldest is forgotten");
        for (int acts : new int[] {23, 24, 25, 26, 60}) {
            StairTolls x = Check.with("step 0 20;");
            for (int i = 0; i < acts; i++) {
                x.price(0, i % 20);
                c.due("kept", x.count(4), Math.min(24, i + 1));
            }
            int kept = Math.min(24, acts);
            for (int left = kept - 1; left >= 0; left--) {
                c.due("undo", x.undo(), left);
            }
            c.due("no more", x.undo(), STATE);
            c.due("back to", x.step(0, 1), acts <= 24 ? 20 : (acts - 25) % 20);
        }
        forgottenOfEachKind();
    }

    /** Of 26 acts of all kinds on three steps the first two are forgotten: step 0 asks 5, step 1 is sold. */
    private static void forgottenOfEachKind() {
        StairTolls x = Check.with("step 0 1;step 1 2;step 2 3;");
        x.price(0, 5);
        x.sell(1, 4);
        for (int i = 0; i < 6; i++) {
            x.crack(2, 1 - i % 2);
            x.price(1, 10 + i);
            x.sell(0, 1 + i % 4);
            x.price(2, 6 + i);
        }
        for (int left = 23; left >= 0; left--) {
            c.due("undo", x.undo(), left);
        }
        int[][] due = {{0, 5, 0}, {4, 2, 0}, {2, 3, 0}};
        for (int s = 0; s < 3; s++) {
            for (int what = 0; what < 3; what++) {
                c.due("step(" + s + ", " + what + ")", x.step(s, what), due[s][what]);
            }
        }
    }

    private static void latestFirst() {
        c.says("each can be undone, the latest first");
        StairTolls x = Check.with("step 0 1;step 1 2;");
        x.price(0, 5);
        x.price(1, 6);
        x.price(0, 7);
        x.undo();
        c.due("7 is undone", x.step(0, 1), 5);
        c.due("6 is not", x.step(1, 1), 6);
        x.undo();
        c.due("6 is undone", x.step(1, 1), 2);
        c.due("5 is not", x.step(0, 1), 5);
        x.price(1, 9);
        c.due("an act behind an undo", x.count(4), 2);
        x.undo();
        x.undo();
        c.due("5 is undone", x.step(0, 1), 1);
        c.due("undoing is no act", x.undo(), STATE);
    }

    private static void actsOfEachKind() {
        c.says("a STEP ASKS something else; it has another OWNER; it is BROKEN, or mended.");
        StairTolls x = Check.with("step 0 1;step 1 2;walker 1 0 9 1;");
        x.sell(1, 4);
        x.crack(1, 1);
        x.crack(1, 0);
        x.price(1, 8);
        c.due("four", x.count(4), 4);
        c.due("price undone", x.undo(), 3);
        c.due("asks", x.step(1, 1), 2);
        c.due("mending undone", x.undo(), 2);
        c.due("broken", x.step(1, 2), 1);
        c.due("the way knows", x.way(0, -2), NONE);
        c.due("breaking undone", x.undo(), 1);
        c.due("whole", x.step(1, 2), 0);
        c.due("the way knows", x.way(0, -2), 3);
        c.due("owner yet", x.step(1, 0), 4);
        c.due("sale undone", x.undo(), 0);
        c.due("owner", x.step(1, 0), 1);
        x.image(0);
        x.best(1, 0);
        c.due("nothing else is an act", x.count(4), 0);
    }

    private static void prices() {
        c.says("A STEP ASKS v: what it asked. BAD.");
        StairTolls x = Check.with(FULL);
        c.due("least", x.price(0, 0), 20);
        c.due("most", x.price(0, 20), 0);
        c.due("the last step", x.price(17, 1), 20);
        for (int v : new int[] {-1, 21, MIN, MAX}) {
            c.due("asking " + v, x.price(0, v), BAD);
        }
        for (int step : new int[] {-1, 18, MIN, MAX}) {
            c.due("step " + step, x.price(step, 1), BAD);
        }
        x.crack(17, 1);
        c.due("a broken one", x.price(17, 3), 1);
        c.due("it asks", x.step(17, 1), 3);
        c.due("the step above the last", Check.with("step 0 0;step 0 0;").price(2, 1), BAD);
        c.due("the last of two", Check.with("step 0 0;step 0 0;").price(1, 1), 0);
    }

    private static void sales() {
        c.says("It has another OWNER: who had it. BAD: the same, too.");
        StairTolls x = Check.with(FULL);
        c.due("to 4", x.sell(17, 4), 0);
        c.due("to 0", x.sell(17, 0), 4);
        c.due("the same", x.sell(17, 0), BAD);
        for (int owner : new int[] {-1, 5, MIN, MAX}) {
            c.due("owner " + owner, x.sell(0, owner), BAD);
        }
        for (int step : new int[] {-1, 18, MIN, MAX}) {
            c.due("step " + step, x.sell(step, 1), BAD);
        }
        c.due("two acts", x.count(4), 2);
        for (int owner = 0; owner < 5; owner++) {
            StairTolls y = Check.with("step " + owner + " 0;");
            c.due("the same " + owner, y.sell(0, owner), BAD);
        }
    }

    private static void cracks() {
        c.says("It is BROKEN (1), or mended (0): how it was. BAD.");
        StairTolls x = Check.with(FULL);
        c.due("whole, mended", x.crack(17, 0), 0);
        c.due("whole, broken", x.crack(17, 1), 0);
        c.due("broken, broken", x.crack(17, 1), 1);
        c.due("it is broken", x.step(17, 2), 1);
        c.due("broken, mended", x.crack(17, 0), 1);
        c.due("it is whole", x.step(17, 2), 0);
        c.due("it asks as before", x.step(17, 1), 20);
        for (int is : new int[] {-1, 2, MIN, MAX}) {
            c.due("is " + is, x.crack(0, is), BAD);
        }
        for (int step : new int[] {-1, 18, MIN, MAX}) {
            c.due("step " + step, x.crack(step, 1), BAD);
        }
        c.due("none broken", x.count(3), 0);
    }

    private static void undone() {
        c.says("The latest ACT is undone: how many can be undone yet. STATE: none.");
        c.due("no stair", new StairTolls().undo(), STATE);
        StairTolls x = Check.with("step 0 1;");
        c.due("no act", x.undo(), STATE);
        x.price(0, 2);
        c.due("the only one", x.undo(), 0);
        c.due("none again", x.undo(), STATE);
        x.price(0, 2);
        x.price(0, 22);
        c.due("a refused one is no act", x.undo(), 0);
        x.price(0, 3);
        x.image(0);
        x.restore(0);
        c.due("behind restore", x.undo(), STATE);
        c.due("asks as the image", x.step(0, 1), 3);
    }

    private static void stepsLookedAt() {
        c.says("Of a STEP: 0 its OWNER, 1 what it ASKS, 2 whether it is BROKEN (1, 0). BAD.");
        StairTolls x = Check.with("step 3 7;step 4 0;");
        c.due("owner", x.step(0, 0), 3);
        c.due("asks", x.step(0, 1), 7);
        c.due("broken", x.step(0, 2), 0);
        x.crack(1, 1);
        c.due("the other", x.step(0, 2), 0);
        c.due("broken", x.step(1, 2), 1);
        for (int wrong : new int[] {-1, 3, MIN, MAX}) {
            c.due("what " + wrong, x.step(0, wrong), BAD);
        }
        for (int wrong : new int[] {-1, 2, MIN, MAX}) {
            c.due("step " + wrong, x.step(wrong, 0), BAD);
        }
    }

    private static void waysLookedAt() {
        c.says("THE WAY COSTS (k = -2; NONE: there is none), how many STEPS he treads (-1), the k-th (NONE: not so"
                + " many); -3: whether he goes (1, 0). BAD: k below -3, too.");
        StairTolls x = Check.with("step 0 3;step 1 4;walker 1 1 13 1;walker 3 0 0 1;");
        c.way(x, 0, 0, 14, 0, 1);
        c.way(x, 1, 1, 0);
        for (int k : new int[] {2, 17, 18, 19, 20, 1000, MAX}) {
            c.due("k " + k, x.way(0, k), NONE);
        }
        for (int k : new int[] {-4, -5, MIN}) {
            c.due("k " + k, x.way(0, k), BAD);
        }
        for (int walker : new int[] {-1, 2, 6, MIN, MAX}) {
            for (int k = -3; k < 2; k++) {
                c.due("walker " + walker, x.way(walker, k), BAD);
            }
        }
        x.crack(0, 1);
        c.way(x, 0, 0, NONE);
    }

    private static void ownersLookedAt() {
        c.says("What an OWNER TAKES. BAD; STATE: no STAIR (ahead of BAD).");
        StairTolls x = Check.with("step 0 1;step 1 2;step 2 3;step 3 4;step 4 5;walker 1 0 15 1;");
        for (int owner = 0; owner < 5; owner++) {
            c.due("owner " + owner, x.takes(owner), owner + 1);
        }
        for (int owner : new int[] {-1, 5, 31, 32, MIN, MAX}) {
            c.due("owner " + owner, x.takes(owner), BAD);
            c.due("no stair", new StairTolls().takes(owner), STATE);
        }
    }
}
