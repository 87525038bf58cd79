import java.io.IOException;
import java.nio.file.Files;
import java.nio.file.Path;

/** What every test of the project needs: compare an answer, feed a text, tell how it ended. */
final class Check {
    private final String name;
    private String document = null;
    private String sentence = "";
    private int passed = 0;
    private int failed = 0;
    private int passedOrFailedBefore = 0;

    Check(String name) {
        this.name = name;
    }

    void due(String call, long got, long want) {
        if (got == want) {
            passed++;
        } else {
            failed++;
            System.out.println(name + ": " + call + " answered " + got + ", due is " + want + sentence);
        }
    }

    void same(String what, String got, String want) {
        if (!got.equals(want)) {
            System.out.println(name + ": " + what + ":\n  got " + got + "\n  due " + want + sentence);
        }
        holds(what, got.equals(want));
    }

    void holds(String what, boolean is) {
        due(what, is ? 1 : 0, 1);
    }

    /** THE WAY of a walker: whether he goes, what it costs, all that he treads and no more. */
    void way(StairTolls x, int walker, int goes, int costs, int... steps) {
        due("goes", x.way(walker, -3), goes);
        due("costs", x.way(walker, -2), costs);
        due("treads", x.way(walker, -1), steps.length);
        for (int k = 0; k < steps.length; k++) {
            due("step " + k, x.way(walker, k), steps[k]);
        }
        due("not so many", x.way(walker, steps.length), StairTolls.NONE);
        due("not so many", x.way(walker, Integer.MAX_VALUE), StairTolls.NONE);
    }

    /** What follows, up to the next sentence, tests this one; the document must have it, word for word. */
    void says(String words) {
        endSentence();
        sentence = "";
        holds("the document says: " + words, document().contains(words));
        sentence = "\n  the document says: " + words;
        passedOrFailedBefore = passed + failed;
    }

    private void endSentence() {
        if (!sentence.isEmpty()) {
            holds("tests of the sentence", passed + failed > passedOrFailedBefore);
        }
    }

    private String document() {
        if (document == null) {
            try {
                document = Files.readString(Path.of("../shared/DOC.md")).replaceAll("\\s+", " ");
            } catch (IOException e) {
                document = "";
            }
        }
        return document;
    }

    static void feed(StairTolls x, String text) {
        for (int i = 0; i < text.length(); i += 8) {
            int n = Math.min(8, text.length() - i);
            long w = 0;
            for (int j = 0; j < n; j++) {
                w = (w << 8) | (text.charAt(i + j) & 255);
            }
            x.feed(w, n);
        }
    }

    static StairTolls with(String text) {
        StairTolls x = new StairTolls();
        feed(x, text);
        x.stair();
        return x;
    }

    /** A ROW of a LANE that holds these ITEMS. */
    static void fill(StairTolls x, int row, int lane, int... items) {
        x.row(row, lane, items.length);
        for (int i = 0; i < items.length; i++) {
            x.set(row, i, items[i]);
        }
    }

    void end() {
        endSentence();
        System.out.println(name + ": " + passed + " passed, " + failed + " failed");
        if (failed > 0) {
            System.exit(1);
        }
    }
}
