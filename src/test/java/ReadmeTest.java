import java.lang.reflect.Method;
import java.lang.reflect.Modifier;
import java.nio.file.Files;
import java.nio.file.Path;
import java.util.Map;
import java.util.TreeSet;
import java.util.regex.Matcher;
import java.util.regex.Pattern;

/** README.md: its examples, run in their order on one object, answer what stands behind them. */
public final class ReadmeTest {
    private static final Check c = new Check("ReadmeTest");
    private static final Pattern CALL = Pattern.compile("x\\.(\\w+)\\((.*)\\); +// (\\S+)");
    private static final Pattern TOLD = Pattern.compile("tell\\(x, \"(.*)\"\\); +// (\\S+)");
    private static final Map<String, Integer> NAMES = Map.of("NONE", StairTolls.NONE, "BAD", StairTolls.BAD,
            "STATE", StairTolls.STATE, "FULL", StairTolls.FULL);

    private final StairTolls x = new StairTolls();
    private final TreeSet<String> shown = new TreeSet<>();
    private int calls = 0;

    public static void main(String[] args) throws Exception {
        ReadmeTest t = new ReadmeTest();
        String readme = Files.readString(Path.of("README.md"));
        for (String line : readme.split("\n")) {
            t.run(line);
        }
        t.showsTheFace();
        t.namesTheTests(readme);
        c.end();
    }

    private void run(String line) throws Exception {
        Matcher told = TOLD.matcher(line);
        Matcher call = CALL.matcher(line);
        if (told.matches()) {
            Check.feed(x, told.group(1));
            calls += told.group(1).length() / 8 + 2;
            c.due(line, x.stair(), answer(told.group(2)));
        } else if (call.matches()) {
            calls++;
            shown.add(call.group(1));
            c.due(line, answerTo(call.group(1), call.group(2)), answer(call.group(3)));
        } else {
            c.holds("a line of an example is no call: " + line, !line.startsWith("x.") && !line.startsWith("tell("));
        }
    }

    private int answerTo(String name, String told) throws Exception {
        String[] numbers = told.isEmpty() ? new String[0] : told.split(", ");
        for (Method m : StairTolls.class.getMethods()) {
            if (m.getName().equals(name) && m.getParameterCount() == numbers.length) {
                Object[] with = new Object[numbers.length];
                for (int i = 0; i < with.length; i++) {
                    long v = Long.decode(numbers[i].replace("L", ""));
                    with[i] = m.getParameterTypes()[i] == long.class ? (Object) v : (Object) (int) v;
                }
                return (Integer) m.invoke(x, with);
            }
        }
        c.holds("the face has no " + name + " of " + numbers.length, false);
        return StairTolls.NONE;
    }

    private static int answer(String told) {
        Integer named = NAMES.get(told);
        return named == null ? Integer.parseInt(told) : named;
    }

    private void showsTheFace() {
        for (Method m : StairTolls.class.getDeclaredMethods()) {
            if (Modifier.isPublic(m.getModifiers())) {
                c.holds("README.md shows " + m.getName(), shown.contains(m.getName()));
            }
        }
        c.holds("the examples are no more calls than an object is good for: " + calls, calls <= 512);
    }

    private void namesTheTests(String readme) throws Exception {
        c.holds("how to run the tests", readme.contains(".ci/run") && readme.contains("../shared/tests"));
        try (var files = Files.list(Path.of("src/test/java"))) {
            for (Path file : files.toList()) {
                String name = file.getFileName().toString().replace(".java", "");
                c.holds("README.md names " + name, !name.endsWith("Test") || readme.contains("`" + name + "`"));
            }
        }
    }
}
