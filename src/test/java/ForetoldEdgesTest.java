/** Boundary cases of what is foretold and of images, sentence by sentence: Terms 3, promises 16 to 24. */
public final class ForetoldEdgesTest {
    private static final int NONE = -1000000, BAD = -1000001, STATE = -1000002, NULL = -1000011, PLACE = -1000012;
    private static final int MIN = Integer.MIN_VALUE, MAX = Integer.MAX_VALUE;
    private static final Check c = new Check("ForetoldEdgesTest");

    public static void main(String[] args) {
        nothingChanges();
        setsOfOwners();
        setsAreBits();
        oneAsking();
        othersAsTheyAre();
        leastOfSeveral();
        gains();
        bestOfNone();
        rounds();
        oneAfterAnother();
        whoHasNoSteps();
        nobodyChanges();
        notInTwenty();
        askedBehind();
        turnsRefused();
        sharesOfThree();
        noSetHasLess();
        leastFirstShare();
        sharesRefused();
        planks();
        planksOfWhoCannotBeUp();
        means();
        lowestTerms();
        askedFits();
        askedIsTheWay();
        askedNoMoreThanWorth();
        askedLimits();
        askedRefused();
        askedItems();
        deals();
        dealsByBest();
        dealsRefused();
        images();
        restored();
        c.end();
    }

    private static String seen(StairTolls x) {
        StringBuilder s = new StringBuilder();
        for (int what = 0; what < 6; what++) {
            s.append(x.count(what)).append(' ');
        }
        for (int step = 0; step < 3; step++) {
            for (int what = 0; what < 3; what++) {
                s.append(x.step(step, what)).append(' ');
            }
        }
        for (int k = -3; k < 3; k++) {
            s.append(x.way(0, k)).append(' ').append(x.way(1, k)).append(' ');
        }
        return s.append(x.fault()).append(' ').append(x.trace(0)).toString();
    }

    private static void nothingChanges() {
        c.says("FORETOLD (nothing changes).");
        StairTolls x = Check.with("step 0 4;step 1 6;step 2 5;walker 1 0 30 2;walker 2 1 15 3;");
        x.crack(2, 1);
        x.price(0, 3);
        Check.fill(x, 0, 0, 1);
        Check.feed(x, "step");
        x.ask(1, 0);
        String due = seen(x);
        for (int what = 0; what < 2; what++) {
            x.best(7, what);
            c.same("best", seen(x), due);
            x.mean(1, what);
            c.same("mean", seen(x), due);
            x.asked(1, 0, 1, 0, 12, what);
            c.same("asked", seen(x), due);
            x.deal(0, 2, what);
            c.same("deal", seen(x), due);
            x.turnsOf(what - 1);
            c.same("turnsOf", seen(x), due);
            x.planks(what);
            c.same("planks", seen(x), due);
            x.shares(0, 1, 2, what);
            c.same("shares", seen(x), due);
        }
    }

    private static void setsOfOwners() {
        c.says("BEST of a set of OWNERS (1 to 31)");
        StairTolls x = Check.with("step 0 1;step 1 1;step 2 1;step 3 1;step 4 1;walker 1 0 20 1;");
        // who asks v for n of five steps: n times v and 5 less n are 20 at most
        int[] best = {16, 8, 6, 4, 4};
        int set = 0;
        for (int n = 1; n <= 5; n++) {
            set = set << 1 | 1;
            c.due("best of " + set, x.best(set, 0), best[n - 1]);
        }
        c.due("owner 4 alone", x.best(16, 0), 16);
        c.due("owners 0 and 4", x.best(17, 0), 8);
        for (int wrong : new int[] {0, -1, 32, 33, 63, MIN, MAX}) {
            c.due("best of " + wrong, x.best(wrong, 0), BAD);
        }
    }

    private static void setsAreBits() {
        c.says("Sets are bits.");
        // all ask 15 of 20: who asks anew can ask 5 more than now
        StairTolls x = Check.with("step 0 1;step 1 2;step 2 3;step 3 4;step 4 5;walker 1 0 20 1;");
        for (int owner = 0; owner < 5; owner++) {
            c.due("owner " + owner + " alone", x.best(1 << owner, 0), 6 + owner);
        }
        // two ask the same: half of 5 and of what both ask now
        c.due("owners 0 and 1", x.best(3, 0), 4);
        c.due("owners 0 and 2", x.best(5, 0), 4);
        c.due("owners 3 and 4", x.best(24, 0), 7);
    }

    private static void oneAsking() {
        c.says("one ASKING (0 to 20) for all their STEPS by which they TAKE most together");
        int[][] due = {{0, 0}, {1, 1}, {19, 19}, {20, 20}, {21, 20}, {200, 20}};
        for (int[] d : due) {
            c.due("worth " + d[0], Check.with("step 0 7;walker 1 0 " + d[0] + " 1;").best(1, 0), d[1]);
        }
        // two steps ask the same, so 11 cannot be taken
        c.due("two steps", Check.with("step 0 1;step 0 1;walker 1 0 11 1;").best(1, 0), 5);
        c.due("two owners' steps", Check.with("step 0 1;step 1 1;walker 1 0 11 1;").best(3, 0), 5);
        StairTolls broken = Check.with("step 0 9;walker 1 0 99 1;");
        broken.crack(0, 1);
        c.due("broken, 0 as well as any", broken.best(1, 0), 0);
    }

    private static void othersAsTheyAre() {
        c.says("others as they are; of several the least.");
        StairTolls x = Check.with("step 0 20;step 1 6;walker 1 0 10 1;");
        c.due("4 is left", x.best(1, 0), 4);
        x.price(1, 10);
        c.due("nothing is left", x.best(1, 0), 0);
        x.price(1, 11);
        c.due("nobody comes", x.best(1, 0), 0);
        x.price(1, 0);
        c.due("all is left", x.best(1, 0), 10);
        c.due("his own asking does not count", x.step(0, 1), 20);
    }

    private static void leastOfSeveral() {
        c.says("of several the least. GAINS");
        c.due("5 from two, 10 from one", Check.with("step 0 0;walker 1 0 10 1;walker 1 0 5 1;").best(1, 0), 5);
        c.due("4 from two is less", Check.with("step 0 0;walker 1 0 10 1;walker 1 0 4 1;").best(1, 0), 10);
        c.due("6 from two is more", Check.with("step 0 0;walker 1 0 10 1;walker 1 0 6 1;").best(1, 0), 6);
        c.due("all take 0", Check.with("step 0 9;").best(1, 0), 0);
        c.due("all take 0", Check.with("step 0 9;walker 3 0 99 1;").best(1, 0), 0);
    }

    private static void gains() {
        c.says("GAINS: that less what they TAKE as it is (0 at least).");
        c.due("13 more", Check.with("step 0 7;walker 1 0 200 1;").best(1, 1), 13);
        c.due("as it is", Check.with("step 0 20;walker 1 0 200 1;").best(1, 1), 0);
        // 11 as it is, 10 by one asking
        c.due("less", Check.with("step 0 1;step 0 10;walker 1 0 11 1;").best(1, 1), 0);
        c.due("just 1 more", Check.with("step 0 1;step 0 8;walker 1 0 10 1;").best(1, 1), 1);
        // owner 1 takes 3 as it is, with owner 2 6
        StairTolls x = Check.with("step 0 3;step 1 3;step 2 3;walker 1 0 19 1;");
        c.due("of one", x.best(2, 1), 10);
        c.due("of two", x.best(6, 1), 10);
        c.due("load and folk", Check.with("step 0 2;walker 1 1 9 5;").best(1, 1), 20);
    }

    private static void bestOfNone() {
        c.says("BEST (what = 0), GAINS (1) of OWNERS; NONE: they have no STEPS. BAD; STATE: no STAIR (ahead of BAD).");
        StairTolls x = Check.with("step 1 5;walker 1 0 9 1;");
        c.due("owner 0", x.best(1, 0), NONE);
        c.due("all but 1", x.best(29, 1), NONE);
        c.due("one of them has", x.best(31, 0), 9);
        c.due("BAD ahead of NONE", x.best(1, 2), BAD);
        for (int what : new int[] {-1, 2, MIN, MAX}) {
            c.due("what " + what, x.best(2, what), BAD);
        }
        x.sell(0, 0);
        c.due("sold", x.best(2, 0), NONE);
        c.due("bought", x.best(1, 0), 9);
    }

    /** Two steps, of which the walker treads the cheaper, of equal ones that of 0: 0 asks what 1 asks, 1 less. */
    private static StairTolls cheaper(int of0, int of1) {
        return Check.with("step 0 " + of0 + ";step 1 " + of1 + ";walker 2 0 200 1;");
    }

    private static void rounds() {
        c.says("rounds till one in which nobody changes what any of his STEPS ASKS (that one, too)");
        c.due("at once", cheaper(0, 0).turnsOf(-1), 1);
        c.due("0 alone comes down", cheaper(1, 0).turnsOf(-1), 2);
        // in round p both come to 1 and 0, in the next 0 to 0, then nobody changes
        for (int p = 1; p <= 18; p++) {
            StairTolls x = cheaper(20, p);
            c.due("from " + p, x.turnsOf(-1), p + 2);
            c.due("0 asks", x.turnsOf(0), 0);
            c.due("1 asks", x.turnsOf(1), 0);
        }
    }

    private static void oneAfterAnother() {
        c.says("TURNS: OWNERS 0 to 4 one after another, each by BEST of himself alone");
        // who comes first takes all that is left, the next ones find the others as they are then
        StairTolls x = Check.with("step 4 1;step 3 1;step 2 1;step 1 1;step 0 1;walker 1 0 20 1;");
        int[] due = {16, 1, 1, 1, 1};
        for (int owner = 0; owner < 5; owner++) {
            c.due("owner " + owner, x.turnsOf(owner), due[owner]);
        }
        c.due("rounds", x.turnsOf(-1), 2);
        StairTolls y = Check.with("step 4 2;step 3 2;step 1 2;walker 1 0 20 1;");
        c.due("1 is first of 1, 3, 4", y.turnsOf(1), 16);
        c.due("3 is not", y.turnsOf(3), 2);
    }

    private static void whoHasNoSteps() {
        c.says("(who has no STEPS does not count)");
        StairTolls x = Check.with("step 2 9;walker 1 0 9 1;");
        c.due("nobody changes", x.turnsOf(-1), 1);
        int[] due = {NONE, NONE, 9, NONE, NONE};
        for (int owner = 0; owner < 5; owner++) {
            c.due("owner " + owner, x.turnsOf(owner), due[owner]);
        }
    }

    private static void nobodyChanges() {
        c.says("nobody changes what any of his STEPS ASKS");
        c.due("both ask 5", Check.with("step 0 5;step 0 5;walker 1 0 10 1;").turnsOf(-1), 1);
        c.due("4 and 6 become 5", Check.with("step 0 4;step 0 6;walker 1 0 10 1;").turnsOf(-1), 2);
        c.due("6 and 4 become 5", Check.with("step 0 6;step 0 4;walker 1 0 10 1;").turnsOf(-1), 2);
        c.due("5 and 6", Check.with("step 0 5;step 0 6;walker 1 0 10 1;").turnsOf(-1), 2);
        c.due("0 and 0 stay", Check.with("step 0 0;step 0 0;").turnsOf(-1), 1);
        c.due("20 and 20 stay", Check.with("step 0 20;step 0 20;walker 1 0 40 1;").turnsOf(-1), 1);
        c.due("0 and 3 become 0", Check.with("step 0 0;step 0 3;").turnsOf(-1), 2);
        c.due("3 and 0 become 0", Check.with("step 0 3;step 0 0;").turnsOf(-1), 2);
        c.due("20 and 3 become 20", Check.with("step 0 20;step 0 3;walker 1 0 40 1;").turnsOf(-1), 2);
        StairTolls x = Check.with("step 0 5;step 0 3;walker 2 0 5 1;");
        c.due("both ask 5 then", x.turnsOf(-1), 2);
        x.price(1, 5);
        c.due("at once", x.turnsOf(-1), 1);
        x.crack(1, 1);
        c.due("a broken one counts", x.turnsOf(0), 5);
        x.price(1, 4);
        c.due("a broken one changes", x.turnsOf(-1), 2);
    }

    private static void notInTwenty() {
        c.says("NONE: not in 20");
        c.due("in 20", cheaper(20, 18).turnsOf(-1), 20);
        c.due("in 21", cheaper(20, 19).turnsOf(-1), NONE);
        c.due("in 22", cheaper(20, 20).turnsOf(-1), NONE);
        c.due("a ring", ring().turnsOf(-1), NONE);
    }

    /** 10 9, 9 8, 6 5, 5 4, 4 3, 11 10, then 10 9 again: round 20 is as round 2. */
    private static StairTolls ring() {
        return Check.with("step 0 10;step 1 10;walker 1 0 14 2;walker 2 0 10 5;");
    }

    private static void askedBehind() {
        c.says("what an OWNER ASKS behind it (behind 20: so far; NONE: he has none)");
        c.due("0 in 20", cheaper(20, 18).turnsOf(0), 0);
        c.due("0 in 21, so far", cheaper(20, 19).turnsOf(0), 0);
        c.due("1 in 21, so far", cheaper(20, 19).turnsOf(1), 0);
        c.due("0 in 22, so far", cheaper(20, 20).turnsOf(0), 1);
        c.due("1 in 22, so far", cheaper(20, 20).turnsOf(1), 0);
        c.due("0 of the ring", ring().turnsOf(0), 9);
        c.due("1 of the ring", ring().turnsOf(1), 8);
        c.due("2 of the ring", ring().turnsOf(2), NONE);
    }

    private static void turnsRefused() {
        c.says("TURNS: rounds (owner = -1), what an OWNER ASKS behind them; NONE. BAD; STATE: no STAIR (ahead of BAD).");
        StairTolls x = cheaper(1, 1);
        for (int owner : new int[] {-2, 5, MIN, MAX}) {
            c.due("owner " + owner, x.turnsOf(owner), BAD);
            c.due("no stair", new StairTolls().turnsOf(owner), STATE);
        }
        c.due("owner 4 has none", x.turnsOf(4), NONE);
        c.due("rounds", x.turnsOf(-1), 3);
        // what was foretold holds no longer than the stair
        x.price(1, 2);
        c.due("behind price", x.turnsOf(-1), 4);
        x.undo();
        c.due("behind undo", x.turnsOf(-1), 3);
        x.image(0);
        x.sell(1, 0);
        c.due("behind sell", x.turnsOf(0), 20);
        x.restore(0);
        c.due("behind restore", x.turnsOf(0), 0);
        x.crack(1, 1);
        c.due("behind crack", x.turnsOf(0), 20);
        Check.feed(x, "step 3 7;walker 1 0 8 1;");
        x.stair();
        c.due("behind stair", x.turnsOf(3), 8);
    }

    private static void share(String text, int... parts) {
        StairTolls x = Check.with(text);
        for (int k = 0; k < 3; k++) {
            c.due("share " + k + " of " + text, x.shares(0, 1, 2, k), parts[k]);
        }
    }

    private static void sharesOfThree() {
        c.says("SHARES of three unlike OWNERS: parts in whole numbers of what they can TAKE together by BEST");
        StairTolls x = Check.with("step 0 5;step 1 5;step 2 5;walker 3 0 14 1;");
        int[][] orders = {{0, 1, 2}, {0, 2, 1}, {1, 0, 2}, {1, 2, 0}, {2, 0, 1}, {2, 1, 0}};
        // all 14; 0 alone 5, 1 alone 4, 2 alone 4: the last told has what is left
        int[][] parts = {{5, 4, 5}, {5, 4, 5}, {4, 5, 5}, {4, 4, 6}, {4, 5, 5}, {4, 4, 6}};
        for (int i = 0; i < 6; i++) {
            for (int k = 0; k < 3; k++) {
                c.due("order " + i + ", share " + k, x.shares(orders[i][0], orders[i][1], orders[i][2], k), parts[i][k]);
            }
        }
        c.due("owners 4, 3, 2", x.shares(4, 3, 2, 2), 4);
        c.due("none of the three has steps", Check.with("step 0 5;walker 1 0 9 1;").shares(1, 2, 3, 2), 0);
        share("step 0 5;", 0, 0, 0);
    }

    private static void noSetHasLess() {
        c.says("so that no set of them has less than it can TAKE by BEST of its own, others as they are");
        // 5, 4, 4 alone
        share("step 0 5;step 1 5;step 2 5;walker 3 0 13 1;", 5, 4, 4);
        share("step 0 5;step 1 5;step 2 5;walker 3 0 12 1;", NONE, NONE, NONE);
        // 7, 6, 4 alone, 16 in all: 1 too few
        share("step 1 6;step 0 7;step 2 2;step 2 2;walker 1 0 17 1;", NONE, NONE, NONE);
        // first and third together 9, all 8
        share("step 1 0;step 0 5;step 0 5;step 2 6;walker 1 0 10 1;", NONE, NONE, NONE);
        // second and third together 15, all 12
        share("step 2 7;step 1 1;step 1 2;step 2 2;step 0 1;step 2 7;walker 1 0 17 1;", NONE, NONE, NONE);
        // first and second together 6, all 4
        share("step 2 0;step 0 4;step 0 5;step 1 4;walker 1 0 7 1;", NONE, NONE, NONE);
    }

    private static void leastFirstShare() {
        c.says("of several the one in which the first told has least, then the second; NONE.");
        // first 4 alone, both 9: the second has 5, though 1 alone
        share("step 0 3;step 1 6;step 0 7;walker 1 0 11 1;", 4, 5, 0);
        // first with second 12, with third 12, all 15: the first has 9, though 6 alone
        share("step 1 6;step 0 2;step 2 4;step 0 2;step 0 7;walker 1 0 18 1;", 9, 3, 3);
        // first with second 8, with third 16, all 20: 4; then the second 4, though 2 alone
        share("step 0 6;step 2 2;step 1 6;step 2 7;step 2 7;walker 1 0 24 1;", 4, 4, 12);
        // nothing alone; 6, 12, 4 by two, 16 in all
        share("step 1 4;step 2 6;step 0 3;step 0 5;walker 1 0 11 2;", 2, 4, 10);
        // second and third 20 together: the third has it
        share("step 1 5;step 2 7;step 2 7;step 1 1;step 0 5;step 2 1;walker 1 0 25 1;", 4, 5, 15);
    }

    private static void sharesRefused() {
        c.says("SHARES: that of the k-th told (0 to 2); NONE. BAD; STATE: no STAIR (ahead of BAD).");
        StairTolls x = Check.with("step 0 5;walker 1 0 9 1;");
        for (int wrong : new int[] {-1, 5, MIN, MAX}) {
            c.due("a " + wrong, x.shares(wrong, 1, 2, 0), BAD);
            c.due("b " + wrong, x.shares(0, wrong, 2, 0), BAD);
            c.due("c " + wrong, x.shares(0, 1, wrong, 0), BAD);
        }
        for (int wrong : new int[] {-1, 3, MIN, MAX}) {
            c.due("k " + wrong, x.shares(0, 1, 2, wrong), BAD);
        }
        c.due("a is b", x.shares(3, 3, 2, 0), BAD);
        c.due("a is c", x.shares(3, 2, 3, 0), BAD);
        c.due("b is c", x.shares(2, 3, 3, 0), BAD);
        c.due("all are one", x.shares(3, 3, 3, 0), BAD);
        c.due("0 has all", x.shares(0, 4, 3, 0), 9);
        c.due("k 2", x.shares(4, 3, 0, 2), 9);
    }

    private static void planks() {
        c.says("PLANKS: STEPS made free so that a WALKER's THE WAY COSTS 0: the fewest");
        String full = "step 0 20;".repeat(18);
        StairTolls x = Check.with(full + "walker 1 2 0 1;walker 2 0 0 1;walker 3 0 200 1;");
        c.due("reach 1: all", x.planks(0), 18);
        c.due("reach 2: every other one", x.planks(1), 9);
        c.due("reach 3: every third", x.planks(2), 6);
        c.due("no step on the way", Check.with("step 0 9;walker 2 0 0 1;").planks(0), 0);
        c.due("free as it is", Check.with("step 0 0;step 0 9;walker 2 0 0 1;").planks(0), 0);
        c.due("1 is not free", Check.with("step 0 1;walker 1 0 9 1;").planks(0), 1);
        c.due("fewest, not cheapest", Check.with("step 0 1;step 0 20;step 0 1;walker 2 0 0 1;").planks(0), 1);
        // three free ones and a plank are better than two planks
        c.due("free ones cost no plank", Check.with("step 0 0;step 0 9;step 0 0;step 0 9;step 0 9;walker 2 0 0 1;")
                .planks(0), 1);
        x.price(0, 0);
        c.due("one is free", x.planks(0), 17);
    }

    private static void planksOfWhoCannotBeUp() {
        c.says("NONE: he cannot be up.");
        StairTolls x = Check.with("step 0 9;step 0 9;step 0 9;walker 1 0 0 1;walker 2 0 0 1;");
        c.due("it costs more than worth: he can", x.planks(0), 3);
        x.crack(1, 1);
        c.due("reach 1 over a broken one", x.planks(0), NONE);
        c.due("reach 2 over a broken one", x.planks(1), 2);
        x.crack(0, 1);
        c.due("reach 2 over two", x.planks(1), NONE);
        c.says("PLANKS; NONE. BAD.");
        for (int wrong : new int[] {-1, 2, 6, MIN, MAX}) {
            c.due("walker " + wrong, x.planks(wrong), BAD);
        }
    }

    private static void fraction(String text, int owner, int above, int below) {
        StairTolls x = Check.with(text);
        c.due("above, of " + text, x.mean(owner, 0), above);
        c.due("below, of " + text, x.mean(owner, 1), below);
    }

    private static void means() {
        c.says("MEAN of an OWNER: one of the WALKERS comes, each by FOLK of all FOLK");
        // 3 folk of 4 pay 5, 1 of 4 is not up
        fraction("step 0 5;walker 1 0 5 3;walker 1 0 4 1;", 0, 15, 4);
        fraction("step 0 5;walker 1 1 10 1;walker 1 0 5 2;", 0, 20, 3);
        c.says("MEAN: above (what = 0), below (1); NONE: no WALKERS. BAD; STATE: no STAIR (ahead of BAD).");
        fraction("step 0 5;", 0, NONE, NONE);
        StairTolls x = Check.with("step 0 5;");
        c.due("BAD ahead of NONE", x.mean(5, 0), BAD);
        c.due("BAD ahead of NONE", x.mean(0, 2), BAD);
        StairTolls y = Check.with("step 4 5;walker 1 0 9 1;");
        c.due("owner 4", y.mean(4, 0), 5);
        for (int wrong : new int[] {-1, 5, MIN, MAX}) {
            c.due("owner " + wrong, y.mean(wrong, 0), BAD);
        }
        for (int wrong : new int[] {-1, 2, MIN, MAX}) {
            c.due("what " + wrong, y.mean(0, wrong), BAD);
        }
    }

    private static void lowestTerms() {
        c.says("fractions, told as two numbers in lowest terms (0 is 0 by 1)");
        fraction("step 0 5;walker 1 0 5 20;", 1, 0, 1);
        fraction("step 0 5;walker 1 0 4 20;", 0, 0, 1);
        fraction("step 0 5;walker 1 0 5 20;", 0, 5, 1);
        fraction("step 0 6;walker 1 0 6 2;walker 1 0 0 6;", 0, 3, 2);
        fraction("step 0 1;walker 1 0 1 1;walker 1 0 0 19;", 0, 1, 20);
        fraction("step 0 20;".repeat(10) + "walker 1 0 200 20;".repeat(6), 0, 200, 1);
        fraction("step 0 20;".repeat(10) + "walker 1 0 200 19;".repeat(5) + "walker 1 0 199 6;", 0, 19000, 101);
    }

    private static void fits(StairTolls x, int walker, int n, int k, int sum, int least) {
        c.due("asked, how many", x.asked(walker, 0, n, k, sum, 0), least == NONE ? 0 : 1);
        c.due("asked, the least", x.asked(walker, 0, n, k, sum, 1), least);
    }

    private static void askedFits() {
        c.says("what one of these STEPS ASKS is not known (0 to 20), all else is as it is");
        StairTolls x = Check.with("step 0 4;step 1 7;walker 1 1 200 1;");
        Check.fill(x, 0, 0, 0, 1);
        fits(x, 0, 2, 0, 14, 0);
        fits(x, 0, 2, 0, 54, 20);
        fits(x, 0, 2, 0, 12, NONE);
        fits(x, 0, 2, 0, 56, NONE);
        fits(x, 0, 2, 0, 15, NONE);
        fits(x, 0, 2, 1, 8, 0);
        fits(x, 0, 2, 1, 48, 20);
        fits(x, 0, 2, 1, 22, 7);
        fits(x, 0, 2, 0, 0, NONE);
        fits(x, 0, 2, 0, 9999, NONE);
        c.due("what it asks stays", x.step(0, 1), 4);
    }

    private static void askedIsTheWay() {
        c.says("how many ASKINGS fit, by which that is THE WAY, and COSTS that sum");
        // of two steps the cheaper is trodden, of equal ones 0
        StairTolls x = Check.with("step 0 5;step 1 5;walker 2 0 200 1;");
        Check.fill(x, 0, 2, 0, 1);
        fits(x, 0, 1, 0, 5, 5);
        fits(x, 0, 1, 0, 6, NONE);
        fits(x, 0, 2, 0, 10, NONE);
        x.set(0, 0, 1);
        fits(x, 0, 1, 0, 4, 4);
        fits(x, 0, 1, 0, 5, NONE);
        x.crack(1, 1);
        fits(x, 0, 1, 0, 4, NONE);
        x.undo();
        x.crack(0, 1);
        fits(x, 0, 1, 0, 20, 20);
        // more told than he treads: all he treads is there, but it is not the way
        StairTolls y = Check.with("step 0 0;step 1 0;step 2 0;walker 2 0 9 1;walker 3 0 9 1;walker 1 0 9 1;");
        Check.fill(y, 0, 2, 1, 2);
        fits(y, 0, 1, 0, 0, 0);
        fits(y, 0, 2, 0, 0, NONE);
        Check.fill(y, 0, 2, 0);
        fits(y, 1, 1, 0, 0, 0);
        fits(y, 2, 1, 0, 0, NONE);
    }

    private static void askedNoMoreThanWorth() {
        c.says("and no more than WORTH; the least.");
        StairTolls x = Check.with("step 0 4;walker 1 0 9 1;walker 1 2 29 1;");
        Check.fill(x, 0, 1, 0);
        fits(x, 0, 1, 0, 9, 9);
        fits(x, 0, 1, 0, 10, NONE);
        fits(x, 1, 1, 0, 27, 9);
        fits(x, 1, 1, 0, 29, NONE);
        fits(x, 1, 1, 0, 30, NONE);
        fits(x, 1, 1, 0, 0, 0);
    }

    /** Eighteen steps, all on the way of reach 1, and a row that tells them. */
    private static StairTolls eighteen() {
        StairTolls x = Check.with("step 0 1;".repeat(18) + "walker 1 0 200 1;");
        x.row(0, 1, 40);
        for (int i = 0; i < 18; i++) {
            x.set(0, i, i);
        }
        return x;
    }

    private static void askedLimits() {
        c.says("ASKED: n STEPS (1 to 18), rising, ITEMS of a ROW from its beginning on, the k-th not known, a sum"
                + " (0 to 9999): how many (what = 0), the least (1; NONE).");
        StairTolls x = eighteen();
        c.due("n 18, k 0", x.asked(0, 0, 18, 0, 18, 1), 1);
        c.due("n 18, k 17", x.asked(0, 0, 18, 17, 18, 1), 1);
        c.due("n 1, k 0", x.asked(0, 0, 1, 0, 18, 0), 0);
        c.due("sum 0", x.asked(0, 0, 18, 0, 0, 0), 0);
        c.due("sum 0, the least", x.asked(0, 0, 18, 0, 0, 1), NONE);
        c.due("sum 9999", x.asked(0, 0, 18, 0, 9999, 0), 0);
        c.due("sum 9999, the least", x.asked(0, 0, 18, 0, 9999, 1), NONE);
    }

    private static void askedRefused() {
        c.says("BAD: WALKER, ROW, n, k, sum, what; NULL; PLACE");
        StairTolls x = eighteen();
        for (int wrong : new int[] {-1, 1, MIN, MAX}) {
            c.due("walker " + wrong, x.asked(wrong, 0, 18, 0, 18, 0), BAD);
        }
        for (int wrong : new int[] {-1, 8, MIN, MAX}) {
            c.due("row " + wrong, x.asked(0, wrong, 18, 0, 18, 0), BAD);
        }
        for (int wrong : new int[] {0, -1, 19, MIN, MAX}) {
            c.due("n " + wrong, x.asked(0, 0, wrong, 0, 18, 0), BAD);
        }
        for (int wrong : new int[] {-1, 18, MIN, MAX}) {
            c.due("k " + wrong, x.asked(0, 0, 18, wrong, 18, 0), BAD);
        }
        c.due("k 1 of 1", x.asked(0, 0, 1, 1, 18, 0), BAD);
        for (int wrong : new int[] {-1, 10000, MIN, MAX}) {
            c.due("sum " + wrong, x.asked(0, 0, 18, 0, wrong, 0), BAD);
        }
        for (int wrong : new int[] {-1, 2, MIN, MAX}) {
            c.due("what " + wrong, x.asked(0, 0, 18, 0, 18, wrong), BAD);
        }
        c.due("missing", x.asked(0, 1, 18, 0, 18, 0), NULL);
        x.row(1, 0, 17);
        c.due("17 items", x.asked(0, 1, 18, 0, 18, 0), PLACE);
        x.row(1, 0, 0);
        c.due("no items", x.asked(0, 1, 1, 0, 18, 0), PLACE);
    }

    private static void askedItems() {
        c.says("then BAD: an ITEM that is no STEP, or does not rise.");
        StairTolls x = Check.with("step 0 1;step 0 1;step 0 1;walker 1 0 200 1;");
        int[][] wrong = {{0, 0}, {1, 0}, {0, 1, 1}, {0, 2, 1}, {-1, 0}, {0, 3}, {3}, {-1}, {MIN}, {MAX}, {0, 1, 3}, {2, 1}};
        for (int[] items : wrong) {
            Check.fill(x, 0, 2, items);
            c.due("items from " + items[0], x.asked(0, 0, items.length, 0, 3, 0), BAD);
        }
        int[][] right = {{0}, {2}, {0, 1}, {0, 2}, {1, 2}};
        for (int[] items : right) {
            Check.fill(x, 0, 2, items);
            c.due("rising from " + items[0], x.asked(0, 0, items.length, 0, 3, 0), 0);
        }
        // behind the n-th they do not count
        Check.fill(x, 0, 2, 0, 1, 2, 1, 99);
        c.due("the first three", x.asked(0, 0, 3, 2, 3, 0), 1);
        c.due("the first four", x.asked(0, 0, 4, 2, 3, 0), BAD);
    }

    private static void deals() {
        c.says("DEAL: a STEP sold to another OWNER, all ASKINGS as they are: how much more he would TAKE");
        StairTolls x = Check.with("step 0 3;step 1 5;step 1 4;walker 1 1 24 2;");
        c.due("0 to 1", x.deal(0, 1, 0), 12);
        c.due("1 to 0", x.deal(1, 0, 0), 20);
        c.due("2 to who has none", x.deal(2, 4, 0), 16);
        x.price(0, 4);
        c.due("he is not up", x.deal(0, 1, 0), 0);
        x.price(0, 0);
        c.due("free", x.deal(0, 1, 0), 0);
        x.crack(1, 1);
        c.due("broken", x.deal(1, 0, 0), 0);
        c.due("no walkers", Check.with("step 0 9;").deal(0, 1, 0), 0);
    }

    private static void dealsByBest() {
        c.says("and by BEST of himself then than by BEST of himself without it");
        // 17 with the other at 3; both together 20
        StairTolls x = Check.with("step 0 3;step 1 5;walker 1 0 20 1;");
        c.due("0 to 1", x.deal(0, 1, 1), 3);
        c.due("1 to 0", x.deal(1, 0, 1), 5);
        c.due("to who has none", x.deal(0, 2, 1), 15);
        // 19 without it; with it one asking for both, 9 and 9
        c.due("less", Check.with("step 0 19;step 1 0;walker 1 0 19 1;").deal(1, 0, 1), -1);
        c.due("nothing", Check.with("step 0 19;step 1 0;walker 1 0 0 1;").deal(1, 0, 1), 0);
    }

    private static void dealsRefused() {
        c.says("DEAL: a STEP to an OWNER: as it is (what = 0), by BEST (1). BAD: his own, too.");
        StairTolls x = Check.with("step 0 3;step 4 5;walker 1 0 20 1;");
        c.due("0 to 4", x.deal(0, 4, 0), 3);
        for (int what = 0; what < 2; what++) {
            c.due("his own", x.deal(0, 0, what), BAD);
            c.due("his own", x.deal(1, 4, what), BAD);
            for (int wrong : new int[] {-1, 2, 18, MIN, MAX}) {
                c.due("step " + wrong, x.deal(wrong, 1, what), BAD);
            }
            for (int wrong : new int[] {-1, 5, MIN, MAX}) {
                c.due("owner " + wrong, x.deal(0, wrong, what), BAD);
            }
        }
        for (int wrong : new int[] {-1, 2, MIN, MAX}) {
            c.due("what " + wrong, x.deal(0, 1, wrong), BAD);
        }
    }

    private static void images() {
        c.says("An IMAGE (0, 1) is kept of the STAIR: 1. BAD; STATE: no STAIR.");
        StairTolls x = new StairTolls();
        c.due("no stair", x.image(0), STATE);
        c.due("no stair", x.image(1), STATE);
        Check.feed(x, "step 0 1;walker 1 0 9 1;");
        x.stair();
        c.due("0", x.image(0), 1);
        x.price(0, 2);
        c.due("1", x.image(1), 1);
        for (int wrong : new int[] {-1, 2, MIN, MAX}) {
            c.due("image " + wrong, x.image(wrong), BAD);
            c.due("restore " + wrong, x.restore(wrong), BAD);
        }
        c.due("no act", x.count(4), 1);
        x.price(0, 3);
        x.restore(0);
        c.due("0 was kept", x.step(0, 1), 1);
        x.restore(1);
        c.due("1 was kept", x.step(0, 1), 2);
        x.price(0, 4);
        c.due("0 anew", x.image(0), 1);
        x.price(0, 5);
        x.restore(0);
        c.due("in place of what was kept", x.step(0, 1), 4);
        x.restore(1);
        c.due("1 yet", x.step(0, 1), 2);
    }

    private static void restored() {
        c.says("The STAIR is as an IMAGE kept it (no ACT can be undone then): 1. BAD; STATE: none was kept.");
        StairTolls x = Check.with("step 3 6;step 4 7;walker 1 2 60 5;walker 2 0 9 1;");
        c.due("none was kept", x.restore(0), STATE);
        x.crack(1, 1);
        x.image(1);
        c.due("none was kept", x.restore(0), STATE);
        Check.feed(x, "step 0 0;step 0 0;step 0 0;walker 3 0 0 1;");
        x.stair();
        x.price(2, 9);
        x.row(0, 0, 4);
        x.feed(0, 3);
        c.due("restore", x.restore(1), 1);
        int[] due = {1, 2, 2, 1, 0, 3};
        for (int what = 0; what < 6; what++) {
            c.due("count(" + what + ")", x.count(what), due[what]);
        }
        c.due("undo", x.undo(), STATE);
        c.due("owner", x.step(0, 0), 3);
        c.due("asks", x.step(1, 1), 7);
        c.due("broken", x.step(1, 2), 1);
        c.due("no way of reach 1", x.way(0, -2), NONE);
        c.due("way of reach 2", x.way(1, -2), 6);
        x.crack(1, 0);
        c.due("load 2, worth 60, folk 5", x.takes(3), 6 * 3 * 5 + 6);
        c.due("restore again", x.restore(1), 1);
        c.due("as it was kept", x.step(1, 2), 1);
        c.due("no act", x.count(4), 0);
    }
}
