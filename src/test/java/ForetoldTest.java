/** Promises 16 to 24: what is foretold, images. */
public final class ForetoldTest {
    private static final int NONE = -1000000, BAD = -1000001, STATE = -1000002, NULL = -1000011, PLACE = -1000012;
    private static final String TWO = "step 0 4;step 1 6;walker 1 1 30 2;walker 2 0 5 3;";
    private static final Check c = new Check("ForetoldTest");

    public static void main(String[] args) {
        promise16();
        promise17();
        promise18();
        promise19();
        promise20();
        promise21();
        wrongAsked();
        promise22();
        promises23And24();
        nothingChanges();
        c.end();
    }

    private static void promise16() {
        StairTolls x = Check.with(TWO);
        c.due("best of 0", x.best(1, 0), 9);
        c.due("gains of 0", x.best(1, 1), 8);
        c.due("best of 1", x.best(2, 0), 11);
        c.due("gains of 1", x.best(2, 1), 20);
        c.due("best of both", x.best(3, 0), 7);
        c.due("gains of both", x.best(3, 1), 4);
        c.due("with one who has none", x.best(7, 0), 7);
        c.due("no steps", x.best(4, 0), NONE);
        c.due("no steps", x.best(28, 1), NONE);
        c.due("owners 0", x.best(0, 0), BAD);
        c.due("owners 32", x.best(32, 0), BAD);
        c.due("what 2", x.best(1, 2), BAD);
        c.due("what -1", x.best(4, -1), BAD);
        c.due("no stair ahead of BAD", new StairTolls().best(0, 9), STATE);
        // 5 from two brings as much as 10 from one
        c.due("least of several", Check.with("step 0 0;walker 1 0 10 1;walker 1 0 5 1;").best(1, 0), 5);
        c.due("gain", Check.with("step 0 0;walker 1 0 10 1;walker 1 0 5 1;").best(1, 1), 10);
        // as it is they take 11, by one asking 10 only
        StairTolls z = Check.with("step 0 1;step 0 10;walker 1 0 11 1;");
        c.due("gains 0 at least", z.best(1, 1), 0);
        c.due("no walkers: 0", Check.with("step 0 4;").best(1, 0), 0);
    }

    private static void promise17() {
        StairTolls x = Check.with(TWO);
        c.due("rounds", x.turnsOf(-1), 3);
        c.due("0 asks", x.turnsOf(0), 10);
        c.due("1 asks", x.turnsOf(1), 5);
        c.due("2 has none", x.turnsOf(2), NONE);
        c.due("owner 5", x.turnsOf(5), BAD);
        c.due("owner -2", x.turnsOf(-2), BAD);
        x.price(0, 10);
        x.price(1, 5);
        c.due("nobody changes", x.turnsOf(-1), 1);
        x.undo();
        c.due("anew behind an undo", x.turnsOf(-1), 3);
        x.crack(1, 1);
        c.due("broken", x.turnsOf(1), 0);
        x.sell(1, 3);
        c.due("sold", x.turnsOf(1), NONE);
        c.due("no stair ahead of BAD", new StairTolls().turnsOf(9), STATE);
        // 1 and 9: any one asking changes one of them, then 5 stays
        c.due("unlike askings change", Check.with("step 0 1;step 0 9;walker 1 0 10 1;").turnsOf(-1), 2);
        c.due("no walkers: all ask 0", Check.with("step 0 4;step 1 4;").turnsOf(-1), 2);
        StairTolls ring = ring();
        c.due("not in 20", ring.turnsOf(-1), NONE);
        c.holds("so far", ring.turnsOf(0) >= 0 && ring.turnsOf(0) <= 20);
    }

    /** Two who undercut one another till one of them lives better from those who must tread his step. */
    private static StairTolls ring() {
        return Check.with("step 0 10;step 1 10;walker 1 0 14 2;walker 2 0 10 5;");
    }

    private static void share(StairTolls x, int[] owners, int... parts) {
        for (int k = 0; k < 3; k++) {
            c.due("share " + k, x.shares(owners[0], owners[1], owners[2], k), parts[k]);
        }
    }

    private static void promise18() {
        StairTolls x = Check.with("step 0 5;step 1 5;walker 2 0 12 1;");
        share(x, new int[] {0, 1, 2}, 5, 7, 0);
        share(x, new int[] {1, 0, 2}, 4, 8, 0);
        share(x, new int[] {2, 0, 1}, 0, 5, 7);
        share(x, new int[] {2, 3, 4}, 0, 0, 0);
        share(Check.with("step 0 5;step 1 5;step 2 5;walker 3 0 14 1;"), new int[] {0, 1, 2}, 5, 4, 5);
        share(Check.with("step 0 5;step 1 5;step 2 5;walker 3 0 12 1;"), new int[] {0, 1, 2}, NONE, NONE, NONE);
        c.due("together they take less", Check.with(TWO).shares(0, 1, 2, 0), NONE);
        c.due("alike", x.shares(0, 0, 2, 0), BAD);
        c.due("alike", x.shares(0, 1, 0, 0), BAD);
        c.due("alike", x.shares(0, 1, 1, 0), BAD);
        c.due("owner 5", x.shares(5, 1, 0, 0), BAD);
        c.due("owner -1", x.shares(0, -1, 1, 0), BAD);
        c.due("owner 5", x.shares(0, 1, 5, 0), BAD);
        c.due("k 3", x.shares(0, 1, 2, 3), BAD);
        c.due("k -1", x.shares(0, 1, 2, -1), BAD);
        c.due("no stair ahead of BAD", new StairTolls().shares(0, 0, 0, 9), STATE);
    }

    private static void promise19() {
        StairTolls x = Check.with(TWO);
        c.due("both", x.planks(0), 2);
        c.due("one of two", x.planks(1), 1);
        x.price(0, 0);
        c.due("one is free", x.planks(0), 1);
        c.due("he goes free", x.planks(1), 0);
        x.crack(0, 1);
        c.due("cannot be up", x.planks(0), NONE);
        c.due("over the broken one", x.planks(1), 1);
        c.due("walker 2", x.planks(2), BAD);
        c.due("walker -1", x.planks(-1), BAD);
        // one dear plank is fewer than two cheap ones
        c.due("fewest", Check.with("step 0 1;step 0 20;step 0 1;walker 2 0 0 1;").planks(0), 1);
    }

    private static void fraction(StairTolls x, int owner, int above, int below) {
        c.due("mean above", x.mean(owner, 0), above);
        c.due("mean below", x.mean(owner, 1), below);
    }

    private static void promise20() {
        StairTolls x = Check.with(TWO);
        fraction(x, 0, 28, 5);
        fraction(x, 1, 24, 5);
        fraction(x, 2, 0, 1);
        x.price(0, 5);
        fraction(x, 0, 7, 1);
        StairTolls none = Check.with("step 0 4;");
        fraction(none, 0, NONE, NONE);
        c.due("BAD ahead of NONE", none.mean(5, 0), BAD);
        c.due("owner -1", x.mean(-1, 0), BAD);
        c.due("what 2", x.mean(0, 2), BAD);
        c.due("what -1", x.mean(0, -1), BAD);
        c.due("no stair ahead of BAD", new StairTolls().mean(9, 9), STATE);
        // those who do not go count among all folk
        fraction(Check.with("step 0 4;walker 1 0 4 4;walker 1 1 7 6;"), 0, 8, 5);
    }

    private static void fits(StairTolls x, int walker, int n, int k, int sum, int many, int least) {
        c.due("asked, how many", x.asked(walker, 0, n, k, sum, 0), many);
        c.due("asked, the least", x.asked(walker, 0, n, k, sum, 1), least);
    }

    private static void promise21() {
        StairTolls x = Check.with(TWO);
        x.row(0, 2, 2);
        x.set(0, 1, 1);
        fits(x, 0, 2, 1, 20, 1, 6);
        fits(x, 0, 2, 1, 21, 0, NONE);
        fits(x, 0, 2, 1, 30, 1, 11);
        fits(x, 0, 2, 1, 32, 0, NONE);
        fits(x, 0, 2, 0, 12, 1, 0);
        fits(x, 0, 2, 0, 10, 0, NONE);
        fits(x, 1, 1, 0, 4, 1, 4);
        fits(x, 1, 1, 0, 5, 1, 5);
        fits(x, 1, 1, 0, 6, 0, NONE);
        fits(x, 1, 2, 0, 10, 0, NONE);
        fits(x, 1, 2, 0, 9999, 0, NONE);
        x.set(0, 0, 1);
        fits(x, 1, 1, 0, 3, 1, 3);
        fits(x, 1, 1, 0, 4, 0, NONE);
        x.crack(1, 1);
        fits(x, 1, 1, 0, 3, 0, NONE);
    }

    private static void wrongAsked() {
        StairTolls x = Check.with(TWO);
        x.row(0, 2, 2);
        x.set(0, 1, 1);
        c.due("walker", x.asked(2, 0, 2, 0, 1, 0), BAD);
        c.due("row 8", x.asked(0, 8, 2, 0, 1, 0), BAD);
        c.due("n 0", x.asked(0, 0, 0, 0, 1, 0), BAD);
        c.due("n 19", x.asked(0, 0, 19, 0, 1, 0), BAD);
        c.due("k 2 of 2", x.asked(0, 0, 2, 2, 1, 0), BAD);
        c.due("k -1", x.asked(0, 0, 2, -1, 1, 0), BAD);
        c.due("sum -1", x.asked(0, 0, 2, 0, -1, 0), BAD);
        c.due("sum 10000", x.asked(0, 0, 2, 0, 10000, 0), BAD);
        c.due("what 2", x.asked(0, 0, 2, 0, 1, 2), BAD);
        c.due("what -1", x.asked(0, 0, 2, 0, 1, -1), BAD);
        c.due("missing", x.asked(0, 1, 2, 0, 1, 0), NULL);
        c.due("BAD ahead of NULL", x.asked(0, 1, 2, 0, 1, 2), BAD);
        c.due("not so many items", x.asked(0, 0, 3, 0, 1, 0), PLACE);
        x.set(0, 1, 0);
        c.due("does not rise", x.asked(0, 0, 2, 0, 1, 0), BAD);
        x.set(0, 1, 2);
        c.due("no step", x.asked(0, 0, 2, 0, 1, 0), BAD);
        c.due("PLACE ahead of that BAD", x.asked(0, 0, 3, 0, 1, 0), PLACE);
        x.set(0, 0, -1);
        c.due("no step", x.asked(0, 0, 1, 0, 1, 0), BAD);
    }

    private static void promise22() {
        StairTolls x = Check.with(TWO);
        c.due("as it is", x.deal(0, 1, 0), 28);
        c.due("by BEST", x.deal(0, 1, 1), 12);
        c.due("who has none", x.deal(0, 2, 0), 28);
        c.due("who has none, by BEST", x.deal(0, 2, 1), 36);
        c.due("less than without it", Check.with("step 0 19;step 1 0;walker 1 0 19 1;").deal(1, 0, 1), -1);
        c.due("his own", x.deal(0, 0, 0), BAD);
        c.due("step 2", x.deal(2, 0, 0), BAD);
        c.due("owner 5", x.deal(0, 5, 0), BAD);
        c.due("owner -1", x.deal(0, -1, 0), BAD);
        c.due("what 2", x.deal(0, 1, 2), BAD);
        c.due("what -1", x.deal(0, 1, -1), BAD);
    }

    private static void promises23And24() {
        StairTolls x = Check.with(TWO);
        c.due("none was kept", x.restore(0), STATE);
        x.crack(0, 1);
        c.due("image", x.image(0), 1);
        c.due("the other is none", x.restore(1), STATE);
        x.price(0, 20);
        x.sell(1, 4);
        x.crack(0, 0);
        c.due("image 1", x.image(1), 1);
        Check.feed(x, "step 2 2;");
        x.stair();
        x.price(0, 7);
        c.due("restore", x.restore(0), 1);
        c.due("no act", x.count(4), 0);
        c.due("none to undo", x.undo(), STATE);
        c.due("steps", x.count(1), 2);
        c.due("walkers", x.count(2), 2);
        c.due("broken", x.count(3), 1);
        c.due("asks", x.step(0, 1), 4);
        c.due("owner", x.step(1, 0), 1);
        x.price(0, 11);
        c.due("restore 1", x.restore(1), 1);
        c.due("asks", x.step(0, 1), 20);
        c.due("owner", x.step(1, 0), 4);
        c.due("restore 0 again", x.restore(0), 1);
        c.due("an image does not follow", x.step(0, 1), 4);
        c.due("image 2", x.image(2), BAD);
        c.due("image -1", x.image(-1), BAD);
        c.due("restore 2", x.restore(2), BAD);
        c.due("restore -1", x.restore(-1), BAD);
        c.due("BAD ahead of STATE", new StairTolls().image(2), BAD);
        c.due("no stair", new StairTolls().image(1), STATE);
    }

    private static void nothingChanges() {
        StairTolls x = Check.with(TWO);
        x.row(0, 0, 1);
        x.best(3, 0);
        x.turnsOf(0);
        x.shares(0, 1, 2, 0);
        x.planks(0);
        x.mean(0, 0);
        x.asked(1, 0, 1, 0, 5, 0);
        x.deal(0, 1, 1);
        c.due("asks 0", x.step(0, 1), 4);
        c.due("asks 1", x.step(1, 1), 6);
        c.due("owner 0", x.step(0, 0), 0);
        c.due("acts", x.count(4), 0);
        c.due("takes", x.takes(0), 28);
    }
}
