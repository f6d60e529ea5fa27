import java.nio.file.Files;
import java.nio.file.Path;
import java.util.regex.Matcher;
import java.util.regex.Pattern;

/** The calls that README.md shows, each with the answer behind it, and the answers of its table. */
public final class ReadmeTest {
    private static final Check CHECK = new Check();
    private static final Pattern CALL = Pattern.compile("treaty\\.(\\w+)\\(([^)]*)\\); +// (\\w[^:]*|-\\d+):.*");

    public static void main(String[] args) throws Exception {
        TwoTongues treaty = new TwoTongues();
        int calls = 0;
        for (String line : Files.readAllLines(Path.of("README.md"))) {
            if (line.startsWith("treaty.")) {
                calls++;
                asShown(treaty, line);
            }
        }
        CHECK.hold("README.md shows calls", calls > 10);
        table(treaty);
        CHECK.end();
    }

    private static void asShown(TwoTongues treaty, String line) {
        Matcher m = CALL.matcher(line);
        CHECK.hold("a call and its answer: " + line, m.matches());
        if (m.matches()) {
            CHECK.due(line, States.call(treaty, m.group(1), arguments(m.group(2))), answer(m.group(3)));
        }
    }

    private static Object[] arguments(String row) {
        String[] words = row.split(", ");
        Object[] arguments = new Object[words.length];
        for (int i = 0; i < words.length; i++) {
            arguments[i] = argument(words[i]);
        }
        return arguments;
    }

    private static Object argument(String word) {
        if (word.equals("true") || word.equals("false")) return Boolean.valueOf(word);
        if (word.endsWith("L")) return Long.decode(word.substring(0, word.length() - 1));
        return Integer.valueOf(word);
    }

    private static long answer(String word) {
        switch (word) {
            case "BAD": return TwoTongues.BAD;
            case "NO": return TwoTongues.NO;
            case "FULL": return TwoTongues.FULL;
            case "NONE": return TwoTongues.NONE;
            default: return Long.parseLong(word);
        }
    }

    private static void table(TwoTongues treaty) {
        CHECK.due("book(2, 0, 0, 0)", treaty.book(2, 0, 0, 0), TwoTongues.BAD);
        CHECK.due("could(0)", treaty.could(0), TwoTongues.BAD);
        CHECK.due("die(0, 80)", treaty.die(0, 80), TwoTongues.NO);
        CHECK.due("twice(0)", treaty.twice(0), TwoTongues.NONE);
        for (int i = 1; i < 12; i++) {
            CHECK.due("block " + i, treaty.block(1), i);
        }
        CHECK.due("block(1)", treaty.block(1), TwoTongues.FULL);
    }
}
