/** Promises 6 to 15: the tape, stairs and faults, acts, ways, what is taken. */
public final class StairsTest {
    private static final int NONE = -1000000, BAD = -1000001, STATE = -1000002, FULL = -1000003;
    private static final String TWO = "step 0 4;step 1 6;walker 1 1 30 2;walker 2 0 5 3;";
    private static final Check c = new Check("StairsTest");

    public static void main(String[] args) {
        promise6();
        promises7And8();
        roomOfTexts();
        promises9To11();
        promise12();
        promise13();
        promise14();
        firstOfWays();
        promise15();
        c.end();
    }

    private static void promise6() {
        StairTolls x = new StairTolls();
        c.due("n 0", x.feed(0, 0), BAD);
        c.due("n 9", x.feed(0, 9), BAD);
        c.due("n -1", x.feed(0, -1), BAD);
        // 'step' behind a byte that is not among the lowest four
        c.due("lowest four", x.feed(0x7a73746570L, 4), 4);
        c.due("behind it", x.feed(0x203020313bL, 5), 9);
        c.due("read", x.stair(), 1);
        c.due("asks 1", x.step(0, 1), 1);
        c.due("empty then", x.count(5), 0);
        for (int i = 0; i < 49; i++) {
            x.feed(-1, 8);
        }
        c.due("393", x.feed(32, 1), 393);
        c.due("8 more: none comes", x.feed(0, 8), FULL);
        c.due("BAD ahead of FULL", x.feed(0, 9), BAD);
        c.due("still 393", x.count(5), 393);
        c.due("7 more", x.feed(0, 7), 400);
        c.due("one more", x.feed(0, 1), FULL);
        c.due("byte 255 is none", x.stair(), -1000100);
    }

    private static void text(String text, int answer, int fault) {
        StairTolls x = new StairTolls();
        Check.feed(x, text);
        c.due("stair of '" + text + "'", x.stair(), answer);
        c.due("fault of '" + text + "'", x.fault(), fault);
        c.due("tape behind '" + text + "'", x.count(5), 0);
    }

    private static void promises7And8() {
        text("", -1000100, 1);
        text("  \n ", -1000104, 1);
        text("step 0 0;", 1, 0);
        text("\nstep\n0 0 ;\n", 1, 0);
        text("step0 0;step1 20;", 2, 0);
        text("step 004 020;walker 003 002 200 020;", 1, 0);
        text("step 4 20;walker 1 0 0 1;", 1, 0);
        text("step 0 0  ", -1000110, 1);
        text("stepp 0 0;", -1000100, 1);
        text("ste 0 0;", -1000100, 1);
        text("stepa 0 0;", -1000100, 1);
        text("stepz 0 0;", -1000100, 1);
        text("step 0 0z;", -1000108, 1);
        text("Step 0 0;", -1000100, 1);
        text(";", -1000100, 1);
        text("step 0\t0;", -1000106, 1);
        text("step 0 0,", -1000108, 1);
        text("step 0 0;;", -1000109, 1);
        text("step 0 0; 7", -1000110, 1);
        text("step 0;", -1000106, 1);
        text("step 5 x;", -1000105, 2);
        text("step 0 21;", -1000107, 2);
        text("step 0 0021;", -1000107, 1);
        text("step 0000 0;", -1000105, 1);
        text("step -1 0;", -1000105, 1);
        text("walker 1 0 0 1;", -1000100, 1);
        text("step 0 0;walkers 1 0 0 1;", -1000109, 1);
        text("step 0 0;walker 0 0 0 1;", -1000116, 2);
        text("step 0 0;walker 4 0 0 1;", -1000116, 2);
        text("step 0 0;walker 1 3 0 1;", -1000118, 2);
        text("step 0 0;walker 1 0 201 1;", -1000120, 2);
        text("step 0 0;walker 1 0 0 0;", -1000122, 2);
        text("step 0 0;walker 1 0 0 21;", -1000122, 2);
        text("step 0 0;walker 1 0 0 1", -1000123, 1);
        text("step 0 0;walker 1 0 0 1;step 0 0;", -1000124, 1);
        StairTolls x = Check.with(TWO);
        x.price(0, 9);
        x.crack(1, 1);
        Check.feed(x, "step 0 0;walker 9");
        c.due("a fault", x.stair(), -1000116);
        c.due("all stays: steps", x.count(1), 2);
        c.due("all stays: asks", x.step(0, 1), 9);
        c.due("all stays: acts", x.count(4), 2);
        c.due("all stays: broken", x.count(3), 1);
        Check.feed(x, "step 3 1;step 3 2;step 3 3;");
        c.due("another stair", x.stair(), 3);
        c.due("latest fault", x.fault(), 2);
        c.due("no walkers", x.count(2), 0);
        c.due("nothing broken", x.count(3), 0);
        c.due("no act", x.undo(), STATE);
        c.due("owner", x.step(2, 0), 3);
    }

    private static void roomOfTexts() {
        String steps = "step 0 0;".repeat(18);
        String walkers = "walker 1 0 0 1;".repeat(6);
        text(steps + walkers, 18, 0);
        text(steps + "step", -1000100 - 162, 3);
        text(steps + "stepp", -1000100 - 162, 1);
        text(steps + walkers + "walker 9", -1000100 - 252, 3);
        text(steps + walkers + "step", -1000100 - 252, 1);
    }

    private static void promises9To11() {
        StairTolls x = Check.with(TWO);
        c.due("price", x.price(0, 20), 4);
        c.due("price again", x.price(0, 0), 20);
        c.due("asks", x.step(0, 1), 0);
        c.due("price 21", x.price(0, 21), BAD);
        c.due("price -1", x.price(0, -1), BAD);
        c.due("price of none", x.price(2, 1), BAD);
        c.due("price of -1", x.price(-1, 1), BAD);
        c.due("sell", x.sell(1, 4), 1);
        c.due("owner", x.step(1, 0), 4);
        c.due("sell to the same", x.sell(1, 4), BAD);
        c.due("sell to 5", x.sell(1, 5), BAD);
        c.due("sell to -1", x.sell(1, -1), BAD);
        c.due("sell of none", x.sell(2, 0), BAD);
        c.due("crack", x.crack(1, 1), 0);
        c.due("broken", x.step(1, 2), 1);
        c.due("mend", x.crack(1, 0), 1);
        c.due("whole", x.step(1, 2), 0);
        c.due("crack 2", x.crack(1, 2), BAD);
        c.due("crack -1", x.crack(1, -1), BAD);
        c.due("crack of none", x.crack(2, 1), BAD);
        c.due("refused ones are no acts", x.count(4), 5);
        c.due("asked the same: an act as well", x.price(0, 0), 0);
        c.due("mended the whole one: an act as well", x.crack(1, 0), 0);
        c.due("seven acts", x.count(4), 7);
    }

    private static void promise12() {
        StairTolls x = Check.with(TWO);
        c.due("none", x.undo(), STATE);
        x.price(0, 9);
        x.sell(0, 3);
        x.crack(0, 1);
        c.due("mends", x.undo(), 2);
        c.due("whole", x.step(0, 2), 0);
        c.due("owner yet", x.step(0, 0), 3);
        c.due("gives back", x.undo(), 1);
        c.due("owner", x.step(0, 0), 0);
        c.due("asks yet", x.step(0, 1), 9);
        c.due("asks as before", x.undo(), 0);
        c.due("asks", x.step(0, 1), 4);
        c.due("none left", x.undo(), STATE);
        for (int v = 1; v <= 20; v++) {
            x.price(0, v);
        }
        for (int v = 1; v <= 6; v++) {
            x.price(1, v);
        }
        c.due("24 at most", x.count(4), 24);
        for (int left = 23; left >= 0; left--) {
            c.due("left", x.undo(), left);
        }
        c.due("the two oldest are forgotten", x.step(0, 1), 2);
        c.due("step 1 as it was", x.step(1, 1), 6);
        c.due("none", x.undo(), STATE);
        forgottenActsOfAllKinds();
    }

    private static void forgottenActsOfAllKinds() {
        StairTolls x = Check.with(TWO);
        for (int i = 0; i < 30; i++) {
            int answer = i % 3 == 0 ? x.price(0, 5 + i / 3) : i % 3 == 1 ? x.sell(0, 1 + i / 3 % 4) : x.crack(0, 1 - i / 3 % 2);
            c.holds("act " + i, answer >= 0);
        }
        for (int left = 23; left >= 0; left--) {
            c.due("left", x.undo(), left);
        }
        // acts 0 to 5 are forgotten: prices 5, 6, owners 1, 2, cracked, mended
        c.due("asks", x.step(0, 1), 6);
        c.due("owner", x.step(0, 0), 2);
        c.due("whole", x.step(0, 2), 0);
    }

    private static void promise13() {
        StairTolls x = Check.with(TWO);
        c.due("owner", x.step(1, 0), 1);
        c.due("asks", x.step(1, 1), 6);
        c.due("broken", x.step(1, 2), 0);
        c.due("what 3", x.step(1, 3), BAD);
        c.due("what -1", x.step(1, -1), BAD);
        c.due("step 2", x.step(2, 0), BAD);
        c.due("step -1", x.step(-1, 0), BAD);
    }

    private static void promise14() {
        StairTolls x = Check.with(TWO);
        c.way(x, 0, 1, 20, 0, 1);
        c.way(x, 1, 1, 4, 0);
        c.due("k -4", x.way(0, -4), BAD);
        c.due("walker 2", x.way(2, 0), BAD);
        c.due("walker -1", x.way(-1, 0), BAD);
        x.price(0, 9);
        c.way(x, 0, 1, 30, 0, 1);
        c.way(x, 1, 0, 6, 1);
        x.price(0, 10);
        c.way(x, 0, 0, 32, 0, 1);
        x.crack(0, 1);
        c.way(x, 0, 0, NONE);
        c.way(x, 1, 0, 6, 1);
        x.crack(1, 1);
        c.way(x, 1, 0, NONE);
    }

    private static void firstOfWays() {
        // cost ahead of treads: two free steps against one that asks 1
        c.way(Check.with("step 0 0;step 0 1;step 0 0;walker 2 0 9 1;"), 0, 1, 0, 0, 2);
        // treads ahead of order: 0, 1, 2 all free, 1 alone is fewest
        c.way(Check.with("step 0 0;step 0 0;step 0 0;walker 2 0 9 1;"), 0, 1, 0, 1);
        // order: 0 2, 1 2, 1 3 are alike
        c.way(Check.with("step 0 1;step 0 1;step 0 1;step 0 1;walker 2 0 9 1;"), 0, 1, 2, 0, 2);
        c.way(Check.with("step 0 7;step 0 1;walker 3 0 0 1;"), 0, 1, 0);
    }

    private static void promise15() {
        StairTolls x = Check.with(TWO);
        c.due("takes 0", x.takes(0), 28);
        c.due("takes 1", x.takes(1), 24);
        c.due("takes 2", x.takes(2), 0);
        c.due("takes 5", x.takes(5), BAD);
        c.due("takes -1", x.takes(-1), BAD);
        x.price(0, 5);
        c.due("takes 0, all go", x.takes(0), 35);
        x.price(0, 6);
        c.due("one does not go", x.takes(0), 24);
        x.sell(1, 0);
        c.due("both steps", x.takes(0), 48);
        c.due("none", x.takes(1), 0);
        c.due("no stair ahead of BAD", new StairTolls().takes(9), STATE);
        c.due("no walkers", Check.with("step 0 4;").takes(0), 0);
    }
}
