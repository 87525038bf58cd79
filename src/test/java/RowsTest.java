/** Promises 1 to 5 and 30: a new object, row, set, copy, drop, status. */
public final class RowsTest {
    private static final int BAD = -1000001, NULL = -1000011, PLACE = -1000012, SIZE = -1000014, STORE = -1000015;
    private static final Check c = new Check("RowsTest");

    public static void main(String[] args) {
        promise1();
        promise2();
        promise3();
        promise4();
        promise5();
        promise30();
        c.end();
    }

    private static void promise1() {
        StairTolls x = new StairTolls();
        for (int what = 0; what < 6; what++) {
            c.due("new: count(" + what + ")", x.count(what), 0);
        }
        c.due("new: status", x.status(), 0);
        c.due("new: fault", x.fault(), 0);
        c.due("new: trace", x.trace(0), StairTolls.NONE);
        c.due("new: takes", x.takes(0), StairTolls.STATE);
        c.due("new: restore", x.restore(1), StairTolls.STATE);
        StairTolls other = Check.with("step 0 1;");
        c.due("objects do not share", x.count(1), 0);
        c.due("objects do not share", other.count(1), 1);
    }

    private static void promise2() {
        StairTolls x = new StairTolls();
        c.due("row of none", x.row(0, 0, 0), 0);
        c.due("row of 40", x.row(7, 2, 40), 40);
        c.due("two rows", x.count(0), 2);
        c.due("row above 40", x.row(1, 0, 41), BAD);
        c.due("row -1", x.row(-1, 0, 1), BAD);
        c.due("row 8", x.row(8, 0, 1), BAD);
        c.due("lane -1", x.row(0, -1, 1), BAD);
        c.due("lane 3", x.row(0, 3, 1), BAD);
        c.due("lane 3 ahead of SIZE", x.row(0, 3, -1), BAD);
        c.due("fewer than none", x.row(7, 0, -1), SIZE);
        c.due("least", x.row(7, 0, Integer.MIN_VALUE), SIZE);
        c.due("SIZE left the row", x.drop(7), 40);
        x.row(2, 2, 2);
        x.set(2, 1, 9);
        c.due("in place of what is there", x.row(2, 2, 2), 2);
        c.due("items 0 at first: copy", x.copy(2, 1, 2, 0, 1), 1);
        StairTolls y = Check.with("step 0 1;step 1 1;walker 1 0 9 1;");
        y.row(0, 0, 2);
        y.set(0, 0, 1);
        y.row(0, 0, 2);
        c.due("items are 0 anew: 0, 0 does not rise", y.asked(0, 0, 2, 0, 2, 0), BAD);
    }

    private static void promise3() {
        StairTolls x = new StairTolls();
        x.row(0, 0, 2);
        x.row(1, 1, 2);
        x.row(2, 2, 2);
        c.due("byte 127", x.set(0, 0, 127), 127);
        c.due("byte 128", x.set(0, 0, 128), -128);
        c.due("byte 255", x.set(0, 1, 255), -1);
        c.due("byte 256", x.set(0, 1, 256), 0);
        c.due("byte 128 of short", x.set(1, 0, 128), 128);
        c.due("short 32768", x.set(1, 0, 32768), -32768);
        c.due("short 65541", x.set(1, 1, 65541), 5);
        c.due("int", x.set(2, 0, Integer.MIN_VALUE), Integer.MIN_VALUE);
        c.due("row 8", x.set(8, 0, 0), BAD);
        c.due("row -1", x.set(-1, 0, 0), BAD);
        c.due("missing", x.set(3, 9, 0), NULL);
        c.due("place 2", x.set(0, 2, 0), PLACE);
        c.due("place -1", x.set(0, -1, 0), PLACE);
        x.row(4, 0, 0);
        c.due("place 0 of none", x.set(4, 0, 0), PLACE);
    }

    private static void promise4() {
        // what a row holds is seen by asked(): only rising steps are no BAD
        StairTolls x = Check.with("step 0 1;step 1 1;step 2 1;step 3 1;walker 1 0 9 1;");
        x.row(0, 0, 5);
        for (int i = 0; i < 4; i++) {
            x.set(0, i + 1, i);
        }
        c.due("down, over itself", x.copy(0, 1, 0, 0, 4), 4);
        c.due("0 1 2 3 came down", x.asked(0, 0, 4, 0, 4, 0), 1);
        c.due("up, over itself", x.copy(0, 0, 0, 1, 4), 4);
        c.due("0 stays, 0 behind it", x.asked(0, 0, 2, 0, 4, 0), BAD);
        x.row(1, 0, 4);
        c.due("to another", x.copy(0, 1, 1, 0, 4), 4);
        c.due("0 1 2 3 are there", x.asked(0, 1, 4, 3, 4, 1), 1);
        c.due("none, at the ends", x.copy(0, 5, 1, 4, 0), 0);
        c.due("a is no row", x.copy(8, 0, 1, 0, 0), BAD);
        c.due("b is no row", x.copy(0, 0, -1, 0, 0), BAD);
        c.due("b missing", x.copy(0, 0, 2, 0, 1), NULL);
        c.due("a missing", x.copy(2, 0, 0, 0, 1), NULL);
        x.row(3, 1, 4);
        c.due("two lanes, ahead of PLACE", x.copy(0, -1, 3, 0, 1), STORE);
        c.due("two lanes, none", x.copy(0, 0, 3, 0, 0), STORE);
        c.due("i below 0", x.copy(0, -1, 1, 0, 1), PLACE);
        c.due("j below 0", x.copy(0, 0, 1, -1, 1), PLACE);
        c.due("n below 0", x.copy(0, 0, 1, 0, -1), PLACE);
        c.due("beyond a", x.copy(0, 2, 0, 0, 4), PLACE);
        c.due("beyond b", x.copy(0, 0, 1, 1, 4), PLACE);
        c.due("i past the end, none", x.copy(0, 6, 1, 0, 0), PLACE);
        c.due("i and n wrap", x.copy(0, Integer.MAX_VALUE, 1, 0, Integer.MAX_VALUE), PLACE);
        c.due("what was found changed nothing", x.asked(0, 1, 4, 3, 4, 1), 1);
    }

    private static void promise5() {
        StairTolls x = new StairTolls();
        x.row(3, 1, 7);
        c.due("drop", x.drop(3), 7);
        c.due("missing now", x.drop(3), NULL);
        c.due("set of it", x.set(3, 0, 0), NULL);
        c.due("no rows", x.count(0), 0);
        x.row(3, 1, 0);
        c.due("a row of none is there", x.count(0), 1);
        c.due("drop of none", x.drop(3), 0);
        c.due("row 8", x.drop(8), BAD);
        c.due("row -1", x.drop(-1), BAD);
    }

    private static void promise30() {
        StairTolls x = Check.with("step 0 1;walker 1 0 9 1;");
        x.drop(0);
        c.due("NULL", x.status(), 1);
        x.row(9, 0, 0);
        c.due("BAD leaves it", x.status(), 1);
        x.feed(0, 0);
        x.undo();
        x.price(0, 2);
        x.count(0);
        c.due("calls without a row leave it", x.status(), 1);
        c.due("status leaves it", x.status(), 1);
        x.row(0, 0, 2);
        c.due("none", x.status(), 0);
        x.set(0, 2, 0);
        c.due("PLACE", x.status(), 2);
        x.as(0, 0);
        c.due("as: none", x.status(), 0);
        x.as(0, 4);
        c.due("KIND", x.status(), 3);
        x.as(1, 4);
        c.due("as BAD leaves it", x.status(), 3);
        x.row(0, 0, -5);
        c.due("SIZE", x.status(), 4);
        x.row(1, 1, 2);
        x.copy(0, 0, 1, 0, 1);
        c.due("STORE", x.status(), 5);
        x.asked(0, 0, 1, 0, 2, 0);
        c.due("asked: none", x.status(), 0);
        x.asked(0, 7, 1, 0, 2, 0);
        c.due("asked: NULL", x.status(), 1);
        x.set(0, 1, 0);
        x.drop(5);
        x.asked(0, 0, 2, 0, 2, 0);
        c.due("asked: BAD items leave it", x.status(), 1);
        x.asked(0, 0, 3, 0, 2, 0);
        c.due("asked: PLACE", x.status(), 2);
        x.drop(0);
        c.due("drop: none", x.status(), 0);
    }
}
