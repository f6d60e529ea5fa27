import java.lang.reflect.Constructor;
import java.lang.reflect.Field;
import java.lang.reflect.Method;
import java.lang.reflect.Modifier;
import java.nio.file.Files;
import java.nio.file.Path;
import java.util.Arrays;
import java.util.Set;
import java.util.TreeSet;
import java.util.regex.Pattern;
import java.util.stream.Collectors;

/** The face of the class is the document's, and its source keeps to what LANGUAGE.md rules out by word. */
public final class LanguageTest {
    private static final Check CHECK = new Check();
    private static final String FACE = """
        int book(int, int, int, int)
        int write(int, int, long)
        int wipe(int)
        int fault(int)
        int force(int)
        int means(int, int, int)
        int let(int, int, int, int, int)
        int why(int, int, int, int, int)
        int unlike(int, int, int)
        int least(int, int)
        int doneBy(int, int, int)
        int person(int, int, int)
        int die(int, int)
        int founder(int, int)
        int say(int, int, int, boolean)
        int of(int, int)
        int odds(int, int)
        int block(int)
        int paper(int, int, int)
        int use(int, int, int)
        int holds(int, int, int)
        int deed(int, int, int, int)
        int could(int)
        int twice(int)
        int take(int, int, int)
        int wronged(int)
        int shares(int, int, int)
        long share(int, int, int)
        int small(int, int)
        int claim(int, int, int, int, int, int)
        int founded(int)
        int falls(int, int)
        int hear(int, int)
        int left(int, int, boolean)
        int cousins(int, int)
        int settled(int, int, int)
        int settlement(int, int)
        int topped(int)
        int plan(int, int, int)
        int count(int)
        """;
    /** Words that rules 2 to 6 and 13 leave out: an arrow may stand behind a case, equals between two Strings. */
    private static final String[] RULED_OUT = {"\\bthrows?\\b", "\\btry\\b", "\\bcatch\\b", "\\bsynchronized\\b", "\\bassert\\b",
        "(?m)^(?!\\s*(case|default)\\b).*->", "::", "\\bstatic\\s*\\{", "\\w+Exact\\b", "\\bThread\\b", "\\bRandom\\b", "\\bpackage\\b", "\\bhashCode\\b",
        "System\\.(?!arraycopy)", "(Integer|Long|Math)\\.[A-Z]", "Arrays\\.(?!copyOf|fill)", "\\bObject\\b", "@"};

    public static void main(String[] args) throws Exception {
        face();
        namesInside();
        source(Files.readString(Path.of("src/main/java/TwoTongues.java")));
        CHECK.end();
    }

    private static String told(Method m) {
        String types = Arrays.stream(m.getParameterTypes()).map(Class::getSimpleName).collect(Collectors.joining(", "));
        return m.getReturnType().getSimpleName() + " " + m.getName() + "(" + types + ")";
    }

    private static Set<String> publicMethods() {
        return Arrays.stream(TwoTongues.class.getDeclaredMethods()).filter(m -> !Modifier.isPrivate(m.getModifiers()))
            .map(LanguageTest::told).collect(Collectors.toCollection(TreeSet::new));
    }

    private static void face() {
        Set<String> due = new TreeSet<>(Arrays.asList(FACE.trim().split("\\s*\n\\s*")));
        CHECK.due("methods of the face", due.size(), 40);
        CHECK.hold("the methods are the document's: " + publicMethods(), publicMethods().equals(due));
        Set<String> constants = new TreeSet<>();
        for (Field f : TwoTongues.class.getDeclaredFields()) {
            if (!Modifier.isPrivate(f.getModifiers())) constants.add(f.getName());
            if (Modifier.isStatic(f.getModifiers())) CHECK.hold("final " + f, Modifier.isFinal(f.getModifiers()));
        }
        CHECK.hold("the constants are the document's", constants.equals(Set.of("BAD", "NO", "FULL", "NONE")));
        Constructor<?>[] constructors = TwoTongues.class.getDeclaredConstructors();
        CHECK.due("constructors", constructors.length, 1);
        CHECK.due("their arguments", constructors[0].getParameterCount(), 0);
        CHECK.hold("the class is final", Modifier.isFinal(TwoTongues.class.getModifiers()));
        CHECK.due("BAD", TwoTongues.BAD, -1);
        CHECK.due("NO", TwoTongues.NO, -2);
        CHECK.due("FULL", TwoTongues.FULL, -3);
        CHECK.due("NONE", TwoTongues.NONE, -4);
    }

    private static void namesInside() {
        Set<String> publicNames = Arrays.stream(TwoTongues.class.getMethods()).map(Method::getName).collect(Collectors.toSet());
        Class<?>[] inside = TwoTongues.class.getDeclaredClasses();
        CHECK.hold("some twelve classes", inside.length < 13);
        for (Class<?> c : inside) {
            CHECK.hold(c + " is static", Modifier.isStatic(c.getModifiers()));
            long fields = Arrays.stream(c.getDeclaredFields()).filter(f -> !Modifier.isStatic(f.getModifiers())).count();
            CHECK.hold("some twenty fields in " + c, fields <= 20);
            for (Method m : c.getDeclaredMethods()) {
                CHECK.hold(m + " has a name of its own", !publicNames.contains(m.getName()));
                CHECK.hold("seven parameters of " + m, m.getParameterCount() <= 7);
            }
        }
        for (Method m : TwoTongues.class.getDeclaredMethods()) {
            if (Modifier.isPrivate(m.getModifiers())) CHECK.hold(m + " has a name of its own", !publicNames.contains(m.getName()));
        }
    }

    private static void source(String text) {
        String code = text.replaceAll("(?s)/\\*.*?\\*/", "").replaceAll("//[^\n]*", "");
        for (String word : RULED_OUT) {
            CHECK.hold("no " + word, !Pattern.compile(word).matcher(code).find());
        }
        for (String line : code.split("\n")) {
            if (line.startsWith("import")) CHECK.hold(line, line.matches("import java\\.util\\.(Arrays|ArrayList|List|Iterator);"));
        }
        CHECK.hold("signs of 1 to 127 alone", text.chars().allMatch(c -> c > 0 && c < 128));
    }
}
