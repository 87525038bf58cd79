import java.util.ArrayList;
import java.util.List;

/** Terms: which refusal is answered, in which order, and that a refused call changes nothing but status(). */
public final class RefusalsTest {
    private static final int NONE = -1000000, BAD = -1000001, STATE = -1000002, FULL = -1000003;
    private static final int NULL = -1000011, PLACE = -1000012, KIND = -1000013, SIZE = -1000014, STORE = -1000015;
    private static final int MIN = Integer.MIN_VALUE, MAX = Integer.MAX_VALUE;
    private static final Check c = new Check("RefusalsTest");

    private interface Act {
        int on(StairTolls x);
    }

    private record Refused(String name, int answer, Act act) { }

    public static void main(String[] args) {
        findingsHaveTheirNumbers();
        badAheadOfAll();
        stateAheadOfBadWhereTold();
        badAheadOfState();
        badAheadOfFull();
        badAheadOfFindings();
        firstFindingInTime();
        refusedChangesNothing();
        refusedWithoutStairChangesNothing();
        fullChangesNothing();
        c.end();
    }

    private static void findingsHaveTheirNumbers() {
        c.says("-1000010 less 1 NULL (a ROW that is missing), 2 PLACE (no such place of a ROW), 3 KIND (a STEP that"
                + " is not that), 4 SIZE (fewer than none), 5 STORE (ROWS of two LANES)");
        StairTolls x = full();
        c.due("NULL", x.drop(7), -1000011);
        c.due("PLACE", x.set(0, 4, 0), -1000012);
        c.due("KIND", x.as(0, 5), -1000013);
        c.due("SIZE", x.row(0, 0, -1), -1000014);
        c.due("STORE", x.copy(0, 0, 2, 0, 0), -1000015);
    }

    private static void badAheadOfAll() {
        c.says("BAD (a number is not as told; there is no such thing)");
        StairTolls x = new StairTolls();
        c.due("no step to price", x.price(0, 0), BAD);
        c.due("no step to sell", x.sell(0, 1), BAD);
        c.due("no step to crack", x.crack(0, 1), BAD);
        c.due("no step to look at", x.step(0, 0), BAD);
        c.due("no walker's way", x.way(0, 0), BAD);
        c.due("no walker's planks", x.planks(0), BAD);
        c.due("no step to deal", x.deal(0, 1, 0), BAD);
        c.due("no step of a kind", x.kind(0), BAD);
        c.due("no step as one", x.as(0, 0), BAD);
        c.due("no step to ask", x.ask(0, 0), BAD);
        x.row(0, 0, 1);
        c.due("no walker who went", x.asked(0, 0, 1, 0, 0, 0), BAD);
    }

    private static void stateAheadOfBadWhereTold() {
        c.says("STATE: no STAIR (ahead of BAD)");
        StairTolls x = new StairTolls();
        for (int wrong : new int[] {-1, 5, MIN, MAX}) {
            c.due("takes", x.takes(wrong), STATE);
            c.due("best, owners", x.best(wrong == 5 ? 32 : wrong, 0), STATE);
            c.due("best, what", x.best(1, wrong), STATE);
            c.due("turnsOf", x.turnsOf(wrong == -1 ? -2 : wrong), STATE);
            c.due("shares, a", x.shares(wrong, 1, 2, 0), STATE);
            c.due("shares, b", x.shares(0, wrong, 2, 0), STATE);
            c.due("shares, c", x.shares(0, 1, wrong, 0), STATE);
            c.due("shares, k", x.shares(0, 1, 2, wrong), STATE);
            c.due("mean, owner", x.mean(wrong, 0), STATE);
            c.due("mean, what", x.mean(0, wrong), STATE);
        }
        c.due("shares, alike", x.shares(0, 0, 0, 0), STATE);
        c.due("best of none", x.best(0, 0), STATE);
        c.due("takes, right", x.takes(0), STATE);
        c.due("best, right", x.best(1, 0), STATE);
        c.due("turnsOf, right", x.turnsOf(-1), STATE);
        c.due("shares, right", x.shares(0, 1, 2, 0), STATE);
        c.due("mean, right", x.mean(0, 0), STATE);
    }

    private static void badAheadOfState() {
        c.says("Refusals are answers, the first of these that fits, but as told");
        StairTolls x = new StairTolls();
        for (int wrong : new int[] {-1, 2, MIN, MAX}) {
            c.due("image without a stair", x.image(wrong), BAD);
            c.due("restore of none", x.restore(wrong), BAD);
        }
        c.due("image without a stair", x.image(0), STATE);
        c.due("image without a stair", x.image(1), STATE);
        c.due("restore of none", x.restore(0), STATE);
        c.due("restore of none", x.restore(1), STATE);
    }

    private static void badAheadOfFull() {
        c.says("BAD: n; FULL: none comes.");
        StairTolls x = new StairTolls();
        for (int i = 0; i < 50; i++) {
            x.feed(0, 8);
        }
        for (int wrong : new int[] {0, -1, 9, MIN, MAX}) {
            c.due("feed of " + wrong + " to a full tape", x.feed(0, wrong), BAD);
        }
        c.due("feed of 1 to a full tape", x.feed(0, 1), FULL);
    }

    private static void badAheadOfFindings() {
        c.says("then FINDINGS, of several the first in time");
        StairTolls x = full();
        c.due("row ahead of SIZE", x.row(8, 0, -1), BAD);
        c.due("lane ahead of SIZE", x.row(0, 3, -1), BAD);
        c.due("lane ahead of SIZE", x.row(0, -1, -1), BAD);
        c.due("row ahead of PLACE", x.set(8, -1, 0), BAD);
        c.due("b ahead of a's NULL", x.copy(7, 0, 8, 0, 0), BAD);
        c.due("a ahead of b's NULL", x.copy(-1, 0, 7, 0, 0), BAD);
        c.due("a ahead of PLACE", x.copy(8, -1, 0, -1, -1), BAD);
        c.due("kind ahead of KIND", x.as(0, 6), BAD);
        for (int row : new int[] {7, 3}) {
            // row 7 is missing, row 3 has no ITEMS: NULL and PLACE would fit, too
            c.due("walker ahead of findings", x.asked(2, row, 1, 0, 0, 0), BAD);
            c.due("n ahead of findings", x.asked(0, row, 19, 0, 0, 0), BAD);
            c.due("k ahead of findings", x.asked(0, row, 1, 1, 0, 0), BAD);
            c.due("sum ahead of findings", x.asked(0, row, 1, 0, 10000, 0), BAD);
            c.due("what ahead of findings", x.asked(0, row, 1, 0, 0, 2), BAD);
        }
    }

    private static void firstFindingInTime() {
        StairTolls x = full();
        c.says("BAD: ROW; NULL; PLACE.");
        c.due("set: NULL ahead of PLACE", x.set(7, -1, 0), NULL);
        c.says("BAD: ROWS; NULL; STORE; PLACE (i, j, n below 0, or beyond an end).");
        c.due("copy: a's NULL ahead of PLACE", x.copy(7, -1, 0, -1, -1), NULL);
        c.due("copy: b's NULL ahead of PLACE", x.copy(0, -1, 7, -1, -1), NULL);
        c.due("copy: STORE ahead of PLACE", x.copy(0, -1, 2, -1, -1), STORE);
        c.says("NULL; PLACE; then BAD: an ITEM that is no STEP, or does not rise.");
        c.due("asked: NULL ahead of PLACE", x.asked(0, 7, 18, 0, 0, 0), NULL);
        c.due("asked: PLACE ahead of an item's BAD", x.asked(0, 2, 4, 0, 0, 0), PLACE);
        c.due("asked: an item's BAD", x.asked(0, 2, 3, 0, 0, 0), BAD);
    }

    /**
     * Something of all that an object keeps: a fault, a stair, four acts, an image, four rows, a trace, a tape, and
     * PLACE as its status. Rows 0 and 1 hold the ways of both walkers, so that asked() tells if they change.
     */
    private static StairTolls full() {
        StairTolls x = Check.with("x");
        Check.feed(x, "step 0 1;step 1 0;step 2 11;step 3 2;walker 1 0 200 2;walker 2 1 200 3;");
        x.stair();
        x.price(3, 3);
        x.image(0);
        x.sell(0, 4);
        x.crack(2, 1);
        x.crack(2, 0);
        Check.fill(x, 0, 0, 0, 1, 2, 3);
        Check.fill(x, 1, 0, 1, 3);
        Check.fill(x, 2, 1, 0, 0, 0);
        Check.fill(x, 3, 2);
        x.ask(2, 0);
        Check.feed(x, "step 4 ");
        x.set(2, 3, 0);
        return x;
    }

    /** All that can be seen of an object from outside; it is used up by that. */
    private static String seen(StairTolls x) {
        StringBuilder s = new StringBuilder();
        s.append("fault ").append(x.fault()).append(" trace");
        for (int i = 0; i < 8; i++) {
            s.append(' ').append(x.trace(i));
        }
        seeStair(x, s);
        s.append("\n rows ").append(x.asked(0, 0, 4, 3, 15, 1)).append(' ').append(x.asked(1, 1, 2, 1, 6, 1));
        s.append("\n undone");
        for (int left = x.undo(); left >= 0; left = x.undo()) {
            s.append(' ').append(left);
            seeStair(x, s);
        }
        for (int k = 0; k < 2; k++) {
            s.append("\n image ").append(x.restore(k));
            seeStair(x, s);
        }
        s.append("\n rows");
        for (int row = 0; row < 8; row++) {
            s.append(' ').append(x.drop(row));
        }
        Check.feed(x, "2;");
        s.append("\n tape ").append(x.stair());
        seeStair(x, s);
        return s.toString();
    }

    private static void seeStair(StairTolls x, StringBuilder s) {
        s.append("\n counts");
        for (int what = 0; what < 6; what++) {
            s.append(' ').append(x.count(what));
        }
        s.append(" steps");
        for (int step = 0; step < 4; step++) {
            s.append(' ').append(x.step(step, 0)).append(',').append(x.step(step, 1)).append(',').append(x.step(step, 2));
        }
        s.append(" costs ").append(x.way(0, -2)).append(' ').append(x.way(1, -2));
        s.append(" turns ").append(x.turnsOf(-1)).append(' ').append(x.turnsOf(0));
    }

    private static void refusedChangesNothing() {
        c.says("What is refused, or found, changes nothing but status().");
        String due = seen(full());
        c.holds("rows 0 and 1 are the ways", due.contains("rows 3 3"));
        c.holds("the tape is a step's", due.contains("tape 1"));
        for (Refused r : refusals()) {
            StairTolls x = full();
            c.due(r.name, r.act.on(x), r.answer);
            int finding = -1000010 - r.answer;
            c.due("status behind " + r.name, x.status(), finding > 0 ? finding : 2);
            c.same("all else behind " + r.name, seen(x), due);
        }
    }

    private static List<Refused> refusals() {
        List<Refused> all = new ArrayList<>();
        all.add(new Refused("row(8, 0, 1)", BAD, x -> x.row(8, 0, 1)));
        all.add(new Refused("row(0, 3, 1)", BAD, x -> x.row(0, 3, 1)));
        all.add(new Refused("row(0, 0, 41)", BAD, x -> x.row(0, 0, 41)));
        all.add(new Refused("row(0, 0, -1)", SIZE, x -> x.row(0, 0, -1)));
        all.add(new Refused("row(7, 0, -1)", SIZE, x -> x.row(7, 0, -1)));
        all.add(new Refused("set(8, 0, 1)", BAD, x -> x.set(8, 0, 1)));
        all.add(new Refused("set(7, 0, 1)", NULL, x -> x.set(7, 0, 1)));
        all.add(new Refused("set(0, -1, 9)", PLACE, x -> x.set(0, -1, 9)));
        all.add(new Refused("set(0, 4, 9)", PLACE, x -> x.set(0, 4, 9)));
        all.add(new Refused("copy(0, 0, 8, 0, 1)", BAD, x -> x.copy(0, 0, 8, 0, 1)));
        all.add(new Refused("copy(0, 0, 7, 0, 1)", NULL, x -> x.copy(0, 0, 7, 0, 1)));
        all.add(new Refused("copy(2, 0, 0, 0, 1)", STORE, x -> x.copy(2, 0, 0, 0, 1)));
        all.add(new Refused("copy(0, 0, 1, 0, 3)", PLACE, x -> x.copy(0, 0, 1, 0, 3)));
        all.add(new Refused("copy(1, 1, 0, 0, 2)", PLACE, x -> x.copy(1, 1, 0, 0, 2)));
        all.add(new Refused("drop(8)", BAD, x -> x.drop(8)));
        all.add(new Refused("drop(7)", NULL, x -> x.drop(7)));
        addActs(all);
        addForetold(all);
        addAsked(all);
        return all;
    }

    private static void addActs(List<Refused> all) {
        all.add(new Refused("feed(-1, 0)", BAD, x -> x.feed(-1, 0)));
        all.add(new Refused("feed(-1, 9)", BAD, x -> x.feed(-1, 9)));
        all.add(new Refused("price(4, 1)", BAD, x -> x.price(4, 1)));
        all.add(new Refused("price(0, 21)", BAD, x -> x.price(0, 21)));
        all.add(new Refused("price(0, -1)", BAD, x -> x.price(0, -1)));
        all.add(new Refused("sell(4, 1)", BAD, x -> x.sell(4, 1)));
        all.add(new Refused("sell(1, 5)", BAD, x -> x.sell(1, 5)));
        all.add(new Refused("sell(1, 1)", BAD, x -> x.sell(1, 1)));
        all.add(new Refused("crack(4, 1)", BAD, x -> x.crack(4, 1)));
        all.add(new Refused("crack(0, 2)", BAD, x -> x.crack(0, 2)));
        all.add(new Refused("step(4, 0)", BAD, x -> x.step(4, 0)));
        all.add(new Refused("way(2, 0)", BAD, x -> x.way(2, 0)));
        all.add(new Refused("way(0, -4)", BAD, x -> x.way(0, -4)));
        all.add(new Refused("takes(5)", BAD, x -> x.takes(5)));
    }

    private static void addForetold(List<Refused> all) {
        all.add(new Refused("best(32, 0)", BAD, x -> x.best(32, 0)));
        all.add(new Refused("turnsOf(5)", BAD, x -> x.turnsOf(5)));
        all.add(new Refused("shares(1, 1, 2, 0)", BAD, x -> x.shares(1, 1, 2, 0)));
        all.add(new Refused("planks(2)", BAD, x -> x.planks(2)));
        all.add(new Refused("mean(5, 0)", BAD, x -> x.mean(5, 0)));
        all.add(new Refused("asked(2, 0, 1, 0, 0, 0)", BAD, x -> x.asked(2, 0, 1, 0, 0, 0)));
        all.add(new Refused("asked(0, 7, 1, 0, 0, 0)", NULL, x -> x.asked(0, 7, 1, 0, 0, 0)));
        all.add(new Refused("asked(0, 0, 5, 0, 0, 0)", PLACE, x -> x.asked(0, 0, 5, 0, 0, 0)));
        all.add(new Refused("asked(0, 2, 2, 0, 0, 0)", BAD, x -> x.asked(0, 2, 2, 0, 0, 0)));
        all.add(new Refused("deal(1, 1, 0)", BAD, x -> x.deal(1, 1, 0)));
        all.add(new Refused("image(2)", BAD, x -> x.image(2)));
        all.add(new Refused("restore(2)", BAD, x -> x.restore(2)));
        all.add(new Refused("restore(1)", STATE, x -> x.restore(1)));
    }

    private static void addAsked(List<Refused> all) {
        all.add(new Refused("kind(4)", BAD, x -> x.kind(4)));
        all.add(new Refused("as(4, 0)", BAD, x -> x.as(4, 0)));
        all.add(new Refused("as(0, 6)", BAD, x -> x.as(0, 6)));
        all.add(new Refused("as(0, 5)", KIND, x -> x.as(0, 5)));
        all.add(new Refused("ask(4, 0)", BAD, x -> x.ask(4, 0)));
        all.add(new Refused("ask(0, 2)", BAD, x -> x.ask(0, 2)));
        all.add(new Refused("trace(16)", NONE, x -> x.trace(16)));
        all.add(new Refused("count(6)", BAD, x -> x.count(6)));
    }

    private static void refusedWithoutStairChangesNothing() {
        String due = seen(new StairTolls());
        Act[] refused = {x -> x.undo(), x -> x.takes(0), x -> x.best(1, 0), x -> x.turnsOf(-1),
            x -> x.shares(0, 1, 2, 0), x -> x.mean(0, 0), x -> x.image(0), x -> x.restore(0)};
        for (int i = 0; i < refused.length; i++) {
            StairTolls x = new StairTolls();
            c.due("refused without a stair, " + i, refused[i].on(x), STATE);
            c.due("status", x.status(), 0);
            c.same("all else, " + i, seen(x), due);
        }
    }

    private static void fullChangesNothing() {
        c.says("FULL: none comes.");
        StairTolls x = Check.with("step 3 7;");
        Check.feed(x, " ".repeat(391) + "step 4 ");
        c.due("three more", x.feed(0x787878L, 3), FULL);
        c.due("bytes", x.count(5), 398);
        c.due("status", x.status(), 0);
        c.due("two more", x.feed(0x323bL, 2), 400);
        c.due("one more", x.feed(0x3bL, 1), FULL);
        c.due("nothing of it came", x.stair(), 1);
        c.due("owner", x.step(0, 0), 4);
        c.due("asks", x.step(0, 1), 2);
    }
}
