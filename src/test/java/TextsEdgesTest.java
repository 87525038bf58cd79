/** Boundary cases of texts, sentence by sentence: Terms 1, promises 6 to 8. */
public final class TextsEdgesTest {
    private static final int BAD = -1000001, STATE = -1000002, FULL = -1000003, FAULTY = -1000100;
    private static final String STEPS = "step 0 0;".repeat(18);
    private static final String WALKERS = "walker 1 0 0 1;".repeat(6);
    private static final Check c = new Check("TextsEdgesTest");

    public static void main(String[] args) {
        atMost400();
        names();
        numbers();
        signs();
        between();
        stairs();
        steps();
        walkers();
        inPlaceOfTheOneBefore();
        firstFault();
        leastFault();
        cannotStandThere();
        theEnd();
        numbersNotAsTold();
        noRoom();
        lowestBytes();
        bytesToFeed();
        emptyThen();
        allStays();
        latestFault();
        c.end();
    }

    private static void good(String text, int steps, int walkers) {
        StairTolls x = Check.with(text);
        c.due("steps of '" + text + "'", x.count(1), steps);
        c.due("walkers of '" + text + "'", x.count(2), walkers);
        c.due("fault of '" + text + "'", x.fault(), 0);
    }

    private static void wrong(String text, int place, int fault) {
        StairTolls x = new StairTolls();
        Check.feed(x, text);
        c.due("stair of '" + text + "'", x.stair(), FAULTY - place);
        c.due("fault of '" + text + "'", x.fault(), fault);
        c.due("steps behind '" + text + "'", x.count(1), 0);
    }

    private static void atMost400() {
        c.says("THE TAPE has at most 400 bytes");
        StairTolls x = new StairTolls();
        for (int i = 1; i <= 399; i++) {
            c.due("byte " + i, x.feed(' ', 1), i);
        }
        c.due("two more", x.feed(0, 2), FULL);
        c.due("the 400th", x.feed(' ', 1), 400);
        c.due("the 401st", x.feed(' ', 1), FULL);
        c.due("bytes", x.count(5), 400);
        c.due("blanks alone", x.stair(), FAULTY - 400);
        c.due("behind it", x.feed(' ', 1), 1);
        good("step 0 0;" + " ".repeat(391), 1, 0);
        good(" ".repeat(391) + "step 0 0;", 1, 0);
    }

    private static void names() {
        c.says("NAMES (letters a to z)");
        // a letter makes another name of it, whatever is no letter ends it
        for (char letter : new char[] {'a', 'm', 'z'}) {
            wrong("step" + letter + " 0 0;", 0, 1);
            wrong("step 0 0;walker" + letter + " 1 0 0 1;", 9, 1);
        }
        for (char other : new char[] {'`', '{', 'A', 'P', 'Z', '_', 233, 0, 255}) {
            wrong("step" + other + " 0 0;", 4, 1);
        }
        // as long as the words, but for one letter the same
        for (String name : new String[] {"atep", "stap", "stop", "stez", "abcd"}) {
            wrong(name + " 0 0;", 0, 1);
        }
        for (String name : new String[] {"talker", "wacker", "walkes", "abcdef"}) {
            wrong("step 0 0;" + name + " 1 0 0 1;", 9, 1);
        }
        wrong("Step 0 0;", 0, 1);
        wrong("STEP 0 0;", 0, 1);
        wrong("ste 0 0;", 0, 1);
        wrong("st ep 0 0;", 0, 1);
        wrong("stepstep 0 0;", 0, 1);
        wrong("step 0 0;walke 1 0 0 1;", 9, 1);
        wrong("step 0 0;Walker 1 0 0 1;", 9, 1);
    }

    private static void numbers() {
        c.says("NUMBERS (figures, 3 at most)");
        good("step 0 1;step 2 3;step 4 5;step 0 6;step 1 7;step 2 8;step 3 9;", 7, 0);
        good("step 00 020;step 004 000;", 2, 0);
        c.due("020 is 20", Check.with("step 004 020;").step(0, 1), 20);
        c.due("004 is 4", Check.with("step 004 020;").step(0, 0), 4);
        c.due("3 figures, 200", Check.with("step 0 20;step 0 20;step 0 20;step 0 20;step 0 20;"
                + "walker 001 001 200 020;").way(0, -3), 1);
        wrong("step 0000 0;", 5, 1);
        wrong("step 0 0020;", 7, 1);
        wrong("step 0 0;walker 1 0 0200 1;", 20, 1);
        wrong("step 00000000000000000000000 0;", 5, 1);
        wrong("step 4294967296 0;", 5, 1);
        wrong("step 0/0;", 6, 1);
        wrong("step 0:0;", 6, 1);
        wrong("step -1 0;", 5, 1);
        wrong("step +1 0;", 5, 1);
        wrong("step 1.0 0;", 6, 1);
    }

    private static void signs() {
        c.says("SIGNS ;");
        for (char other : new char[] {':', '<', ',', '.', '#', 0, 127, 128, 187, 255}) {
            wrong("step 0 0" + other, 8, 1);
        }
        wrong("step 0 0;;", 9, 1);
        wrong(";step 0 0;", 0, 1);
        wrong("step; 0 0;", 4, 1);
        wrong("step 0; 0;", 6, 1);
        wrong("step 0 0 step 0 0;", 9, 1);
    }

    private static void between() {
        c.says("bytes 32 and 10 between");
        good("\n \nstep \n 0\n\n0  ; \nwalker\n1\n0 0\n1\n;\n", 1, 1);
        good("step0 0;step1 20;walker1 0 0 1;", 2, 1);
        for (char other : new char[] {9, 11, 12, 13, 31, 33, 0, 160, 42}) {
            wrong("step" + other + "0 0;", 4, 1);
            wrong("step 0" + other + "0;", 6, 1);
            wrong(other + "step 0 0;", 0, 1);
            wrong("step 0 0;" + other, 9, 1);
        }
    }

    private static void stairs() {
        c.says("stair: step { step } { walker }.");
        wrong("", 0, 1);
        wrong("walker 1 0 0 1;", 0, 1);
        good("step 0 0;", 1, 0);
        good("step 0 0;step 0 0;", 2, 0);
        good("step 0 0;walker 1 0 0 1;", 1, 1);
        good("step 0 0;step 0 0;walker 1 0 0 1;walker 1 0 0 1;", 2, 2);
        wrong("step 0 0;walker 1 0 0 1;step 0 0;", 24, 1);
        wrong("step 0 0;0", 9, 1);
        wrong("step 0 0;stair", 9, 1);
    }

    private static void steps() {
        c.says("step: 'step' OWNER ASKS ';' (OWNERS 0 to 4; 0 to 20; STEPS 0 .. 17, from below, 18 at most).");
        StairTolls x = Check.with("step 0 20;step 4 0;step 2 13;");
        int[][] due = {{0, 20}, {4, 0}, {2, 13}};
        for (int s = 0; s < 3; s++) {
            c.due("owner of " + s, x.step(s, 0), due[s][0]);
            c.due("asking of " + s, x.step(s, 1), due[s][1]);
            c.due("whole " + s, x.step(s, 2), 0);
        }
        wrong("step 5 0;", 5, 2);
        wrong("step 0 21;", 7, 2);
        wrong("step 999 0;", 5, 2);
        wrong("step 0 999;", 7, 2);
        good(STEPS, 18, 0);
        c.due("step 17", Check.with(STEPS).step(17, 0), 0);
        c.due("step 18", Check.with(STEPS).step(18, 0), BAD);
        wrong(STEPS + "step 0 0;", 162, 3);
    }

    private static void walkers() {
        c.says("walker: 'walker' REACH LOAD WORTH FOLK ';' (1 to 3; 0 to 2; 0 to 200; 1 to 20; WALKERS 0 .. 5,"
                + " 6 at most).");
        StairTolls x = Check.with("step 0 1;step 1 1;step 2 1;step 3 1;walker 1 2 12 20;walker 3 0 0 1;walker 2 1 200 5;");
        // reach 1 treads 4, reach 3 one, reach 2 two; loads 2, 0, 1
        int[][] due = {{1, 12, 4}, {0, 1, 1}, {1, 4, 2}};
        for (int w = 0; w < 3; w++) {
            for (int k = 0; k < 3; k++) {
                c.due("walker " + w + ", " + k, x.way(w, k - 3), due[w][k]);
            }
        }
        c.due("folk 20 and 5 of all 26", x.mean(3, 1), 13);
        wrong("step 0 0;walker 0 0 0 1;", 16, 2);
        wrong("step 0 0;walker 4 0 0 1;", 16, 2);
        wrong("step 0 0;walker 1 3 0 1;", 18, 2);
        wrong("step 0 0;walker 1 0 201 1;", 20, 2);
        wrong("step 0 0;walker 1 0 0 0;", 22, 2);
        wrong("step 0 0;walker 1 0 0 21;", 22, 2);
        good("step 0 0;" + WALKERS, 1, 6);
        c.due("walker 5", Check.with("step 0 0;" + WALKERS).way(5, -3), 1);
        c.due("walker 6", Check.with("step 0 0;" + WALKERS).way(6, -3), BAD);
        wrong("step 0 0;" + WALKERS + "walker 1 0 0 1;", 99, 3);
        good(STEPS + WALKERS, 18, 6);
    }

    private static void inPlaceOfTheOneBefore() {
        c.says("A STAIR that is read stands in place of the one before (none at first): nothing is BROKEN, no ACT"
                + " can be undone.");
        StairTolls x = Check.with("step 0 1;step 1 2;step 2 3;walker 1 0 9 1;walker 2 0 9 1;");
        x.crack(0, 1);
        x.crack(1, 1);
        x.price(0, 7);
        x.turnsOf(-1);
        Check.feed(x, "step 3 4;step 4 5;");
        c.due("shorter", x.stair(), 2);
        int[] due = {0, 2, 0, 0, 0, 0};
        for (int what = 0; what < 6; what++) {
            c.due("count(" + what + ")", x.count(what), due[what]);
        }
        c.due("undo", x.undo(), STATE);
        c.due("owner", x.step(0, 0), 3);
        c.due("asks", x.step(1, 1), 5);
        c.due("whole", x.step(0, 2), 0);
        c.due("no step 2", x.step(2, 0), BAD);
        c.due("no walker", x.way(0, 0), BAD);
        c.due("turns anew", x.turnsOf(0), StairTolls.NONE);
        Check.feed(x, "step 1 1;step 1 1;step 1 1;walker 3 0 9 1;");
        c.due("longer", x.stair(), 3);
        c.due("whole", x.step(2, 2), 0);
    }

    private static void firstFault() {
        c.says("FAULTS, the first TOKEN that has one (its first byte)");
        wrong("step 5 21;", 5, 2);
        wrong("step 5 x;", 5, 2);
        wrong("step x 21;", 5, 1);
        wrong("step 0 21 x", 7, 2);
        wrong("  step \n 123 0;", 9, 2);
        wrong("step 0 xyz;", 7, 1);
        wrong("\n\nsteps 0 0;", 2, 1);
        wrong("step 0 0;walker 1 0 201 0 #", 20, 2);
        wrong("step 0 0;walker 1 # 201 0;", 18, 1);
        wrong(STEPS.substring(9) + "step 5 0;step 0 0;", 158, 2);
    }

    private static void leastFault() {
        c.says("of one TOKEN the least");
        // a number that is too large stands where none can
        wrong("step 0 0 999;", 9, 1);
        wrong("999 0 0;", 0, 1);
        wrong("step 0 0;walker 1 0 0 1 999", 24, 1);
        // there is no room for a step, but it cannot stand there at all
        wrong(STEPS + "walker 1 0 0 1;step 0 0;", 177, 1);
        wrong(STEPS + WALKERS + "step 0 0;", 252, 1);
        // four figures are no number, so it is not one that is too large
        wrong("step 1234 0;", 5, 1);
    }

    private static void cannotStandThere() {
        c.says("1 it cannot stand there, or is none");
        wrong("step step 0;", 5, 1);
        wrong("step 0 walker;", 7, 1);
        wrong("walker 1 0 0 1;step 0 0;", 0, 1);
        wrong("step 0 0;walker ;", 16, 1);
        wrong("step 0 0;walker 1;", 17, 1);
        wrong("step 0 0;walker 1 0;", 19, 1);
        wrong("step 0 0;walker 1 0 0;", 21, 1);
        wrong("step 0 0;walker 1 0 0 1 1;", 24, 1);
        wrong("step 0 0 0;", 9, 1);
        wrong("#", 0, 1);
    }

    private static void theEnd() {
        c.says("(the end: how many bytes there are)");
        wrong("", 0, 1);
        wrong(" ", 1, 1);
        wrong(" \n ", 3, 1);
        wrong("step", 4, 1);
        wrong("step ", 5, 1);
        wrong("step 0", 6, 1);
        wrong("step 0 \n\n", 9, 1);
        wrong("step 0 0", 8, 1);
        wrong("step 0 0;walker", 15, 1);
        wrong("step 0 0;walker 1", 17, 1);
        wrong("step 0 0;walker 1 0", 19, 1);
        wrong("step 0 0;walker 1 0 0 ", 22, 1);
        wrong("step 0 0;walker 1 0 0 1  ", 25, 1);
        wrong("step 0 0" + " ".repeat(392), 400, 1);
        wrong(" ".repeat(392) + "step 0 0", 400, 1);
    }

    private static void numbersNotAsTold() {
        c.says("2 a NUMBER that is not as told");
        int[][] limits = {{0, 4}, {0, 20}, {1, 3}, {0, 2}, {0, 200}, {1, 20}};
        for (int which = 0; which < limits.length; which++) {
            int low = limits[which][0];
            int high = limits[which][1];
            told(which, low, 0);
            told(which, high, 0);
            told(which, high + 1, 2);
            told(which, 999, 2);
            if (low > 0) {
                told(which, low - 1, 2);
            }
        }
    }

    /** A text whose numbers are all right but the one that is told. */
    private static void told(int which, int number, int fault) {
        int[] numbers = {0, 0, 1, 0, 0, 1};
        numbers[which] = number;
        String text = "step " + numbers[0] + " " + numbers[1] + ";walker " + numbers[2] + " " + numbers[3] + " "
                + numbers[4] + " " + numbers[5] + ";";
        int[] places = {5, 7, 16, 18, 20, 22};
        if (fault == 0) {
            good(text, 1, 1);
        } else {
            wrong(text, places[which], fault);
        }
    }

    private static void noRoom() {
        c.says("3 a step, a walker more than there is room for (its word)");
        wrong(STEPS + "step", 162, 3);
        wrong(STEPS + " step 9 99;", 163, 3);
        wrong(STEPS + "step walker", 162, 3);
        wrong(STEPS + "steps", 162, 1);
        wrong(STEPS + WALKERS + "walker", 252, 3);
        wrong(STEPS + WALKERS + "\n\nwalker 0 3 201 0;", 254, 3);
        wrong("step 0 0;" + WALKERS + "walker", 99, 3);
        wrong(STEPS + WALKERS + "walkers", 252, 1);
    }

    private static void lowestBytes() {
        c.says("The lowest n bytes of w (1 to 8), the highest of them first, come behind the tape: how many it has.");
        String text = "step 3 17;step 1 9; ";
        for (int n = 1; n <= 8; n++) {
            StairTolls x = new StairTolls();
            for (int i = 0; i < text.length(); i += n) {
                long w = -1L;
                int bytes = Math.min(n, text.length() - i);
                for (int j = 0; j < bytes; j++) {
                    w = w << 8 | text.charAt(i + j);
                }
                c.due("feed of " + bytes, x.feed(w, bytes), i + bytes);
            }
            c.due("fed by " + n, x.stair(), 2);
            c.due("owner", x.step(0, 0), 3);
            c.due("asks", x.step(0, 1), 17);
        }
        StairTolls y = new StairTolls();
        y.feed(0x8000000000000000L, 8);
        c.due("a highest byte of 128 is no blank", y.stair(), FAULTY);
    }

    private static void bytesToFeed() {
        c.says("BAD: n; FULL: none comes.");
        StairTolls x = new StairTolls();
        for (int n : new int[] {0, 9, -1, 64, Integer.MIN_VALUE, Integer.MAX_VALUE}) {
            c.due("feed of " + n, x.feed(0x20L, n), BAD);
        }
        c.due("none came", x.count(5), 0);
        c.due("1", x.feed(0x20L, 1), 1);
        c.due("8", x.feed(0x20L, 8), 9);
        for (int i = 0; i < 48; i++) {
            x.feed(0, 8);
        }
        c.due("393 and 8", x.feed(0, 8), FULL);
        c.due("393 yet", x.count(5), 393);
        c.due("393 and 7", x.feed(0, 7), 400);
        for (int n = 1; n <= 8; n++) {
            c.due("400 and " + n, x.feed(0, n), FULL);
        }
    }

    private static void emptyThen() {
        c.says("The tape, empty then, is read: how many STEPS there are.");
        StairTolls x = new StairTolls();
        Check.feed(x, "step 0 0;");
        c.due("one", x.stair(), 1);
        c.due("empty", x.count(5), 0);
        c.due("read again", x.stair(), FAULTY);
        c.due("the stair stays", x.count(1), 1);
        Check.feed(x, "step 0 0;x");
        c.due("wrong", x.stair(), FAULTY - 9);
        c.due("empty", x.count(5), 0);
        Check.feed(x, STEPS);
        c.due("eighteen", x.stair(), 18);
    }

    private static void allStays() {
        c.says("-1000100 less the place of a FAULT: all stays.");
        StairTolls x = Check.with("step 0 1;step 1 12;walker 1 0 99 1;");
        x.row(0, 0, 3);
        x.price(0, 2);
        x.image(1);
        x.crack(0, 1);
        x.ask(1, 1);
        for (String text : new String[] {"", "x", "step 3 3;step 3 21;", "step 3 3;walker 3 0 0 21;", STEPS + "step"}) {
            Check.feed(x, text);
            c.holds("a fault in " + text, x.stair() <= FAULTY);
            int[] due = {1, 2, 1, 1, 2, 0};
            for (int what = 0; what < 6; what++) {
                c.due("count(" + what + ")", x.count(what), due[what]);
            }
            c.due("owner", x.step(0, 0), 0);
            c.due("asks", x.step(0, 1), 2);
            c.due("broken", x.step(0, 2), 1);
            c.due("trace", x.trace(0), 24);
        }
        c.due("acts", x.undo(), 1);
        c.due("whole", x.step(0, 2), 0);
        c.due("acts", x.undo(), 0);
        c.due("asks", x.step(0, 1), 1);
        c.due("image", x.restore(1), 1);
        c.due("asks", x.step(0, 1), 2);
        c.due("row", x.drop(0), 3);
    }

    private static void latestFault() {
        c.says("The number of the latest FAULT; 0 before one.");
        StairTolls x = new StairTolls();
        c.due("before one", x.fault(), 0);
        Check.feed(x, "step 0 0;");
        x.stair();
        c.due("behind a right one", x.fault(), 0);
        Check.feed(x, STEPS + "step");
        x.stair();
        c.due("3", x.fault(), 3);
        Check.feed(x, "step 0 0;");
        x.stair();
        c.due("3 is the latest yet", x.fault(), 3);
        Check.feed(x, "step 9 0;");
        x.stair();
        c.due("2", x.fault(), 2);
        x.stair();
        c.due("1", x.fault(), 1);
        x.feed(0, 9);
        c.due("BAD is no fault", x.fault(), 1);
    }
}
