/** What every test of the project needs: compare an answer, feed a text, tell how it ended. */
final class Check {
    private final String name;
    private int passed = 0;
    private int failed = 0;

    Check(String name) {
        this.name = name;
    }

    void due(String call, long got, long want) {
        if (got == want) {
            passed++;
        } else {
            failed++;
            System.out.println(name + ": " + call + " answered " + got + ", due is " + want);
        }
    }

    void holds(String what, boolean is) {
        due(what, is ? 1 : 0, 1);
    }

    static void feed(StairTolls x, String text) {
        for (int i = 0; i < text.length(); i += 8) {
            int n = Math.min(8, text.length() - i);
            long w = 0;
            for (int j = 0; j < n; j++) {
                w = (w << 8) | (text.charAt(i + j) & 255);
            }
            x.feed(w, n);
        }
    }

    static StairTolls with(String text) {
        StairTolls x = new StairTolls();
        feed(x, text);
        x.stair();
        return x;
    }

    void end() {
        System.out.println(name + ": " + passed + " passed, " + failed + " failed");
        if (failed > 0) {
            System.exit(1);
        }
    }
}
