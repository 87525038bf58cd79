import java.lang.reflect.Constructor;
import java.lang.reflect.Field;
import java.lang.reflect.Method;
import java.lang.reflect.Modifier;
import java.nio.file.Files;
import java.nio.file.Path;
import java.util.Arrays;
import java.util.List;
import java.util.Random;
import java.util.TreeSet;
import java.util.regex.Matcher;
import java.util.regex.Pattern;

/** The face is the document's and no more, the file keeps to LANGUAGE.md, and no call throws. */
public final class FaceTest {
    private static final Check c = new Check("FaceTest");
    private static final String[] FACE = {"row3", "set3", "copy5", "drop1", "feed2", "stair0", "fault0", "price2",
        "sell2", "crack2", "undo0", "step2", "way2", "takes1", "best2", "turnsOf1", "shares4", "planks1", "mean2",
        "asked6", "deal3", "image1", "restore1", "kind1", "as2", "ask2", "trace1", "count1", "status0"};

    public static void main(String[] args) throws Exception {
        face();
        constants();
        insides();
        language();
        noCallThrows();
        c.end();
    }

    private static void face() {
        TreeSet<String> got = new TreeSet<>();
        for (Method m : StairTolls.class.getDeclaredMethods()) {
            if (!Modifier.isPrivate(m.getModifiers())) {
                got.add(m.getName() + m.getParameterCount());
                c.holds(m + " is public and answers an int",
                        Modifier.isPublic(m.getModifiers()) && m.getReturnType() == int.class);
                for (Class<?> p : m.getParameterTypes()) {
                    c.holds(m + " takes ints", p == int.class || m.getName().equals("feed") && p == long.class);
                }
            }
        }
        c.holds("the methods are " + got, got.equals(new TreeSet<>(Arrays.asList(FACE))));
        Constructor<?>[] made = StairTolls.class.getDeclaredConstructors();
        c.holds("one public constructor", made.length == 1 && Modifier.isPublic(made[0].getModifiers())
                && made[0].getParameterCount() == 0);
        c.holds("the class is public and final", Modifier.isPublic(StairTolls.class.getModifiers())
                && Modifier.isFinal(StairTolls.class.getModifiers()));
    }

    private static void constants() {
        c.due("NONE", StairTolls.NONE, -1000000);
        c.due("BAD", StairTolls.BAD, -1000001);
        c.due("STATE", StairTolls.STATE, -1000002);
        c.due("FULL", StairTolls.FULL, -1000003);
        int open = 0;
        for (Field f : StairTolls.class.getDeclaredFields()) {
            open += Modifier.isPrivate(f.getModifiers()) ? 0 : 1;
        }
        c.due("fields that are not private", open, 4);
    }

    private static void insides() {
        List<String> names = Arrays.stream(FACE).map(n -> n.substring(0, n.length() - 1)).toList();
        Class<?>[] all = StairTolls.class.getDeclaredClasses();
        c.holds("at most twelve classes", all.length < 12);
        for (Class<?> inside : all) {
            c.holds(inside + " is static", Modifier.isStatic(inside.getModifiers()));
            for (Method m : inside.getDeclaredMethods()) {
                c.holds(m + " bears no name of the face", !names.contains(m.getName()));
                c.holds(m + " takes at most seven", m.getParameterCount() <= 7);
            }
            for (Field f : inside.getDeclaredFields()) {
                c.holds(f + " is no static state", !Modifier.isStatic(f.getModifiers())
                        || Modifier.isFinal(f.getModifiers()));
            }
        }
        for (Method m : StairTolls.class.getDeclaredMethods()) {
            c.holds(m + " bears no name of the face", !Modifier.isPrivate(m.getModifiers())
                    || !names.contains(m.getName()));
        }
    }

    private static void language() throws Exception {
        String source = Files.readString(Path.of("src/main/java/StairTolls.java"));
        c.holds("signs 10 and 32 to 126 alone", source.matches("[\\n -~]*"));
        c.holds("one file", Files.list(Path.of("src/main/java")).count() == 1);
        shortMethods(source);
        String code = source.replaceAll("(?s)/\\*.*?\\*/", " ").replaceAll("//[^\n]*", " ");
        for (String word : new String[] {"throw", "throws", "try", "catch", "synchronized", "assert", "import",
            "package", "Random", "System\\.(?!arraycopy)\\w+", "Math\\.(?!min\\b|max\\b)\\w+", "protected", "\\w+Exact", "->", "::", "instanceof", "double", "float"}) {
            Matcher m = Pattern.compile(word.matches("\\w+") ? "\\b" + word + "\\b" : word).matcher(code);
            c.holds("no " + word, !m.find());
        }
    }

    /** From a line that opens a method to the one that closes it: some sixty lines at most. */
    private static void shortMethods(String source) {
        String opened = "";
        int since = 0;
        String[] lines = source.split("\n");
        for (int i = 0; i < lines.length; i++) {
            if (lines[i].matches("( {4}| {8})\\w.*\\) \\{") || lines[i].matches("( {4}| {8})(private|public).*\\($")) {
                opened = lines[i];
                since = i;
            }
            if (lines[i].matches("( {4}| {8})\\}") && !opened.isEmpty()) {
                c.holds(opened + " is short", i - since < 60);
            }
        }
    }

    /** Calls beyond the 512th are free in what they answer, but must not throw either. */
    private static void noCallThrows() throws Exception {
        int[] wild = {0, 1, 2, 3, 4, 5, 7, 8, 17, 18, 20, 21, 31, 32, 39, 40, 41, -1, -2, -3, -4, 9999, 10000,
            Integer.MIN_VALUE, Integer.MAX_VALUE, Integer.MIN_VALUE + 1, Integer.MAX_VALUE - 1};
        String[] texts = {"", "step 0 1;", "step 0 4;step 1 6;walker 1 1 30 2;walker 2 0 5 3;",
            "step 0 20;".repeat(18) + "walker 3 2 200 20;".repeat(6)};
        Random r = new Random(7);
        Method[] methods = Arrays.stream(StairTolls.class.getDeclaredMethods())
                .filter(m -> Modifier.isPublic(m.getModifiers())).toArray(Method[]::new);
        Arrays.sort(methods, (a, b) -> a.getName().compareTo(b.getName()));
        for (int i = 0; i < 200; i++) {
            StairTolls x = Check.with(texts[i % texts.length]);
            for (int j = 0; j < 600; j++) {
                Method m = methods[r.nextInt(methods.length)];
                Object[] with = new Object[m.getParameterCount()];
                for (int k = 0; k < with.length; k++) {
                    int v = wild[r.nextInt(r.nextBoolean() ? 5 : wild.length)];
                    with[k] = m.getParameterTypes()[k] == long.class ? (Object) (r.nextLong() + v) : (Object) v;
                }
                m.invoke(x, with);
            }
        }
        c.holds("no call threw", true);
    }
}
