/** Boundary cases of rows, sentence by sentence: Terms 1, promises 2 to 5 and 30. */
public final class RowsEdgesTest {
    private static final int NONE = -1000000, BAD = -1000001, STATE = -1000002;
    private static final int NULL = -1000011, PLACE = -1000012, SIZE = -1000014, STORE = -1000015;
    private static final int MIN = Integer.MIN_VALUE, MAX = Integer.MAX_VALUE;
    private static final int SCRATCH = 7;
    private static final Check c = new Check("RowsEdgesTest");

    public static void main(String[] args) {
        missingAtFirst();
        lanes();
        sizes();
        zeroAtFirst();
        inPlaceOfWhatIsThere();
        refusedRows();
        lowestBits();
        placesOfSet();
        asTheyWereAhead();
        copiesTouchNothingElse();
        placesOfCopy();
        twoLanes();
        dropped();
        statusOfLatest();
        statusLeftAlone();
        c.end();
    }

    /** A stair on which 0 to 17 are steps, so that asked() tells which of them an item is. */
    private static StairTolls readable() {
        return Check.with("step 0 0;".repeat(18) + "walker 1 0 0 1;");
    }

    /** Item i of a row, if it is 0 to 17, else NONE: found by which steps it rises behind. */
    private static int item(StairTolls x, int row, int lane, int i) {
        x.row(SCRATCH, lane, 2);
        x.copy(row, i, SCRATCH, 0, 1);
        if (x.asked(0, SCRATCH, 1, 0, 0, 0) == BAD) {
            return NONE;
        }
        x.copy(row, i, SCRATCH, 1, 1);
        int low = 0;
        int high = 17;
        while (low < high) {
            int middle = (low + high) / 2;
            x.set(SCRATCH, 0, middle);
            if (x.asked(0, SCRATCH, 2, 0, 0, 0) == BAD) {
                high = middle;
            } else {
                low = middle + 1;
            }
        }
        return low;
    }

    private static void items(String what, StairTolls x, int row, int lane, int... due) {
        for (int i = 0; i < due.length; i++) {
            c.due(what + ": item " + i + " of row " + row, item(x, row, lane, i), due[i]);
        }
    }

    private static void missingAtFirst() {
        c.says("ROWS 0 .. 7 are missing (at first)");
        StairTolls x = new StairTolls();
        for (int row = 0; row < 8; row++) {
            c.due("set(" + row + ")", x.set(row, 0, 0), NULL);
            c.due("drop(" + row + ")", x.drop(row), NULL);
            c.due("copy of " + row, x.copy(row, 0, row, 0, 0), NULL);
        }
        c.due("none is there", x.count(0), 0);
        for (int row = 0; row < 8; row++) {
            c.due("row(" + row + ")", x.row(row, 0, 1), 1);
            c.due("so many are there", x.count(0), row + 1);
        }
        for (int row : new int[] {-1, 8, MIN, MAX}) {
            c.due("row(" + row + ")", x.row(row, 0, 1), BAD);
            c.due("set(" + row + ")", x.set(row, 0, 1), BAD);
            c.due("copy from " + row, x.copy(row, 0, 0, 0, 1), BAD);
            c.due("copy to " + row, x.copy(0, 0, row, 0, 1), BAD);
            c.due("drop(" + row + ")", x.drop(row), BAD);
        }
    }

    private static void lanes() {
        c.says("have a LANE (0 bytes, 1 shorts, 2 ints)");
        StairTolls x = new StairTolls();
        int[] kept = {1, 257, 65793};
        for (int lane = 0; lane < 3; lane++) {
            c.due("lane " + lane, x.row(0, lane, 1), 1);
            c.due("65793 in lane " + lane, x.set(0, 0, 65793), kept[lane]);
        }
        for (int lane : new int[] {-1, 3, MIN, MAX}) {
            c.due("lane " + lane, x.row(0, lane, 1), BAD);
        }
    }

    private static void sizes() {
        c.says("0 to 40 ITEMS");
        StairTolls x = new StairTolls();
        for (int lane = 0; lane < 3; lane++) {
            c.due("none", x.row(0, lane, 0), 0);
            c.due("it is there", x.count(0), 1);
            c.due("no item 0", x.set(0, 0, 0), PLACE);
            c.due("40", x.row(0, lane, 40), 40);
            c.due("item 39", x.set(0, 39, 5), 5);
            c.due("no item 40", x.set(0, 40, 5), PLACE);
        }
        c.due("41", x.row(0, 0, 41), BAD);
        c.due("far more", x.row(0, 0, MAX), BAD);
        c.due("still 40", x.drop(0), 40);
    }

    private static void zeroAtFirst() {
        c.says("ITEMS, 0 at first");
        for (int lane = 0; lane < 3; lane++) {
            StairTolls x = readable();
            x.row(0, lane, 40);
            for (int i : new int[] {0, 1, 20, 39}) {
                c.due("item " + i + " of lane " + lane, item(x, 0, lane, i), 0);
            }
            for (int i = 0; i < 40; i++) {
                x.set(0, i, 9);
            }
            x.row(0, lane, 40);
            for (int i : new int[] {0, 39}) {
                c.due("item " + i + " made anew", item(x, 0, lane, i), 0);
            }
            x.set(0, 2, 9);
            x.drop(0);
            x.row(0, lane, 3);
            c.due("item 2 behind a drop", item(x, 0, lane, 2), 0);
        }
    }

    private static void inPlaceOfWhatIsThere() {
        c.says("A ROW of a LANE with n ITEMS, in place of what is there: n.");
        StairTolls x = readable();
        Check.fill(x, 0, 0, 1, 2, 3);
        c.due("a longer one of another lane", x.row(0, 2, 5), 5);
        c.due("its lane", x.set(0, 4, 70000), 70000);
        items("longer", x, 0, 2, 0, 0, 0, 0);
        c.due("a shorter one", x.row(0, 1, 1), 1);
        c.due("its end", x.set(0, 1, 0), PLACE);
        c.due("its lane", x.set(0, 0, 70000), 4464);
        c.due("one of none", x.row(0, 1, 0), 0);
        c.due("its size", x.drop(0), 0);
    }

    private static void refusedRows() {
        c.says("BAD: ROW, LANE, n above 40; SIZE.");
        StairTolls x = new StairTolls();
        c.due("-1", x.row(0, 0, -1), SIZE);
        c.due("least", x.row(0, 0, MIN), SIZE);
        c.due("none came", x.count(0), 0);
        c.due("n above 40, ahead of nothing", x.row(0, 0, 41), BAD);
        c.due("status is SIZE yet", x.status(), 4);
    }

    private static void lowestBits() {
        c.says("ITEM i becomes v, its lowest bits, as many as the LANE has: what it is then.");
        StairTolls x = new StairTolls();
        x.row(0, 0, 1);
        x.row(1, 1, 1);
        x.row(2, 2, 1);
        int[][] due = {{0, 0, 0, 0}, {-1, -1, -1, -1}, {127, 127, 127, 127}, {128, -128, 128, 128},
            {-128, -128, -128, -128}, {-129, 127, -129, -129}, {255, -1, 255, 255}, {256, 0, 256, 256},
            {32767, -1, 32767, 32767}, {32768, 0, -32768, 32768}, {-32768, 0, -32768, -32768},
            {-32769, -1, 32767, -32769}, {65535, -1, -1, 65535}, {65536, 0, 0, 65536}, {MAX, -1, -1, MAX}, {MIN, 0, 0, MIN}};
        for (int[] d : due) {
            for (int lane = 0; lane < 3; lane++) {
                c.due(d[0] + " in lane " + lane, x.set(lane, 0, d[0]), d[lane + 1]);
            }
        }
        StairTolls y = readable();
        y.row(0, 0, 1);
        y.row(1, 1, 1);
        y.set(0, 0, 256 + 7);
        y.set(1, 0, 65536 + 9);
        c.due("the byte that is kept", item(y, 0, 0, 0), 7);
        c.due("the short that is kept", item(y, 1, 1, 0), 9);
        y.set(0, 0, 128);
        c.due("a byte below 0 is no step", y.asked(0, 0, 1, 0, 0, 0), BAD);
    }

    private static void placesOfSet() {
        c.says("BAD: ROW; NULL; PLACE.");
        StairTolls x = readable();
        Check.fill(x, 0, 0, 3, 4);
        Check.fill(x, 1, 0, 5, 6);
        for (int i : new int[] {-1, 2, 40, MIN, MAX}) {
            c.due("set(0, " + i + ")", x.set(0, i, 9), PLACE);
        }
        c.due("the first", x.set(0, 0, 1), 1);
        c.due("the last", x.set(0, 1, 2), 2);
        items("set", x, 0, 0, 1, 2);
        items("the next row", x, 1, 0, 5, 6);
    }

    private static void asTheyWereAhead() {
        c.says("n ITEMS of a from i on come to b from j on, as they were ahead: n.");
        StairTolls x = readable();
        Check.fill(x, 0, 1, 1, 2, 3, 4, 5);
        c.due("up by one", x.copy(0, 0, 0, 1, 4), 4);
        items("up by one", x, 0, 1, 1, 1, 2, 3, 4);
        Check.fill(x, 0, 1, 1, 2, 3, 4, 5);
        c.due("down by one", x.copy(0, 1, 0, 0, 4), 4);
        items("down by one", x, 0, 1, 2, 3, 4, 5, 5);
        c.due("upon itself", x.copy(0, 0, 0, 0, 5), 5);
        items("upon itself", x, 0, 1, 2, 3, 4, 5, 5);
    }

    private static void copiesTouchNothingElse() {
        StairTolls x = readable();
        Check.fill(x, 0, 2, 1, 2, 3);
        Check.fill(x, 1, 2, 4, 5, 6, 7);
        Check.fill(x, 2, 2, 8, 9);
        c.due("two into the middle", x.copy(0, 1, 1, 1, 2), 2);
        items("a", x, 0, 2, 1, 2, 3);
        items("b", x, 1, 2, 4, 2, 3, 7);
        c.due("to the end of b", x.copy(0, 0, 1, 3, 1), 1);
        items("b", x, 1, 2, 4, 2, 3, 1);
        items("the next row", x, 2, 2, 8, 9);
        c.due("none", x.copy(0, 0, 1, 0, 0), 0);
        items("b", x, 1, 2, 4);
        StairTolls y = readable();
        y.row(0, 0, 40);
        y.row(1, 0, 40);
        y.set(0, 0, 11);
        y.set(0, 39, 12);
        c.due("all 40", y.copy(0, 0, 1, 0, 40), 40);
        c.due("the first of 40", item(y, 1, 0, 0), 11);
        c.due("the last of 40", item(y, 1, 0, 39), 12);
    }

    private static void placesOfCopy() {
        c.says("PLACE (i, j, n below 0, or beyond an end).");
        StairTolls x = new StairTolls();
        x.row(0, 0, 5);
        x.row(1, 0, 3);
        x.row(2, 0, 0);
        int[][] right = {{0, 0, 3}, {2, 0, 3}, {4, 2, 1}, {5, 3, 0}, {0, 0, 0}};
        for (int[] r : right) {
            c.due("copy " + r[0] + " " + r[1] + " " + r[2], x.copy(0, r[0], 1, r[1], r[2]), r[2]);
        }
        int[][] wrong = {{-1, 0, 1}, {0, -1, 1}, {0, 0, -1}, {-1, 0, 0}, {0, -1, 0}, {3, 0, 3}, {0, 1, 3}, {0, 0, 4},
            {5, 0, 1}, {0, 3, 1}, {6, 0, 0}, {0, 4, 0}, {1, 1, -1}, {MAX, 0, 1}, {0, MAX, 1}, {0, 0, MAX}, {1, 1, MAX},
            {MAX, MAX, MAX}, {MIN, 0, 1}, {0, MIN, 1}, {0, 0, MIN}, {MIN, MIN, MIN}, {MAX, 0, MIN}};
        for (int[] w : wrong) {
            c.due("copy " + w[0] + " " + w[1] + " " + w[2], x.copy(0, w[0], 1, w[1], w[2]), PLACE);
            c.due("status", x.status(), 2);
        }
        c.due("of none, none", x.copy(2, 0, 2, 0, 0), 0);
        c.due("of none, one", x.copy(2, 0, 2, 0, 1), PLACE);
    }

    private static void twoLanes() {
        c.says("5 STORE (ROWS of two LANES)");
        StairTolls x = new StairTolls();
        for (int lane = 0; lane < 3; lane++) {
            x.row(lane, lane, 2);
        }
        for (int a = 0; a < 3; a++) {
            for (int b = 0; b < 3; b++) {
                c.due("lane " + a + " to lane " + b, x.copy(a, 0, b, 0, 1), a == b ? 1 : STORE);
                c.due("none of lane " + a + " to lane " + b, x.copy(a, 0, b, 0, 0), a == b ? 0 : STORE);
            }
        }
    }

    private static void dropped() {
        c.says("A ROW is missing from now on: how many ITEMS it had. BAD; NULL.");
        StairTolls x = Check.with("step 0 0;walker 1 0 0 1;");
        for (int n : new int[] {0, 1, 39, 40}) {
            x.row(3, 1, n);
            c.due("drop of " + n, x.drop(3), n);
            c.due("count", x.count(0), 0);
            c.due("drop again", x.drop(3), NULL);
            c.due("set", x.set(3, 0, 0), NULL);
            c.due("asked", x.asked(0, 3, 1, 0, 0, 0), NULL);
        }
        x.row(2, 1, 1);
        x.row(4, 1, 1);
        x.row(3, 1, 1);
        x.drop(3);
        c.due("copy from it", x.copy(3, 0, 2, 0, 1), NULL);
        c.due("copy to it", x.copy(2, 0, 3, 0, 1), NULL);
        c.due("its neighbours are there", x.count(0), 2);
        for (int wrong : new int[] {-1, 8, MIN, MAX}) {
            c.due("drop(" + wrong + ")", x.drop(wrong), BAD);
        }
    }

    private static void statusOfLatest() {
        c.says("the number of its FINDING; 0: it had none, or there was none.");
        StairTolls x = Check.with("step 0 0;walker 1 0 0 1;");
        c.due("there was none", x.status(), 0);
        x.row(0, 0, -1);
        c.due("row: SIZE", x.status(), 4);
        x.row(0, 0, 2);
        c.due("row: none", x.status(), 0);
        x.set(1, 0, 0);
        c.due("set: NULL", x.status(), 1);
        x.set(0, 2, 0);
        c.due("set: PLACE", x.status(), 2);
        x.set(0, 0, 0);
        c.due("set: none", x.status(), 0);
        x.copy(0, 0, 1, 0, 0);
        c.due("copy: NULL", x.status(), 1);
        x.row(1, 1, 2);
        x.copy(0, 0, 1, 0, 0);
        c.due("copy: STORE", x.status(), 5);
        x.copy(0, 0, 0, 0, 3);
        c.due("copy: PLACE", x.status(), 2);
        x.copy(0, 0, 0, 0, 0);
        c.due("copy: none", x.status(), 0);
        x.as(0, 1);
        c.due("as: KIND", x.status(), 3);
        x.as(0, 4);
        c.due("as: none", x.status(), 0);
        x.drop(5);
        c.due("drop: NULL", x.status(), 1);
        x.drop(1);
        c.due("drop: none", x.status(), 0);
        x.asked(0, 1, 1, 0, 0, 0);
        c.due("asked: NULL", x.status(), 1);
        x.asked(0, 0, 3, 0, 0, 0);
        c.due("asked: PLACE", x.status(), 2);
        c.due("asked", x.asked(0, 0, 1, 0, 0, 0), 1);
        c.due("asked: none", x.status(), 0);
    }

    /** Each of these is no call with a row, no as(), or it is BAD, STATE or FULL. */
    private static void statusLeftAlone() {
        c.says("Of the latest call with a ROW, or as(), that was not BAD, STATE, FULL");
        StairTolls x = Check.with("step 0 0;step 1 3;walker 1 0 9 1;");
        x.row(0, 0, 2);
        x.row(1, 1, 2);
        x.copy(0, 0, 1, 0, 0);
        int[] answers = {x.row(8, 0, 0), x.row(0, 0, 41), x.set(8, 0, 0), x.copy(0, 0, 8, 0, 0), x.drop(-1),
            x.as(0, 6), x.as(2, 0), x.asked(0, 0, 2, 0, 0, 0), x.asked(1, 0, 1, 0, 0, 0), x.feed(0, 0), x.undo(),
            x.restore(0), x.price(9, 9), x.takes(9)};
        for (int answer : answers) {
            c.holds("refused", answer == BAD || answer == STATE);
        }
        c.due("behind what was refused", x.status(), 5);
        x.price(0, 1);
        x.sell(0, 3);
        x.crack(0, 1);
        x.undo();
        x.step(0, 0);
        x.way(0, 0);
        x.takes(0);
        x.best(1, 0);
        x.turnsOf(-1);
        x.shares(0, 1, 2, 0);
        x.planks(0);
        x.mean(0, 0);
        x.deal(0, 1, 0);
        x.image(0);
        x.restore(0);
        x.kind(0);
        x.ask(0, 0);
        x.trace(0);
        x.count(0);
        x.fault();
        Check.feed(x, "step 0 0;");
        x.stair();
        Check.feed(x, "x");
        x.stair();
        c.due("behind calls without a row", x.status(), 5);
        c.due("behind status itself", x.status(), 5);
    }
}
