import java.util.ArrayList;
import java.util.List;

/**
 * "BAD: a number is none that is told. .. nothing changes then." For every number of every call: the
 * least and the greatest that is told are taken, the next below and above are BAD and change nothing,
 * in a state where something is told and in one where every store is full.
 */
public final class BoundsTest {
    private static final Check CHECK = new Check();
    private static final int BAD = TwoTongues.BAD;
    private static final int ANY = Integer.MAX_VALUE;

    /** A number: from, to, and one to stand by while another one is tried. */
    private record Range(int from, int to, int good) { }

    private record Row(String name, Range... ranges) { }

    private static final Range TONGUE = new Range(0, 1, 1), WORD = new Range(0, 7, 1), YEAR = new Range(0, 200, 60);
    private static final Range VERBS = new Range(0, 63, 5), VERB = new Range(0, 5, 1), THING = new Range(0, 5, 1);
    private static final Range FACTS = new Range(0, 255, 3), FACT = new Range(0, 7, 1), ACT = new Range(0, 35, 7);
    private static final Range PLACE = new Range(-1, ANY, 0), KIN = new Range(0, 9, 3), FLAG = new Range(0, 1, 1);

    private final boolean full;
    private final List<Long> unchanged;

    private BoundsTest(boolean full) {
        this.full = full;
        unchanged = States.answers(begin(new TwoTongues()));
    }

    public static void main(String[] args) {
        CHECK.hold("the model answers alike when something is told", States.answers(States.told(new Model())).equals(new BoundsTest(false).unchanged));
        CHECK.hold("the model answers alike when all is full", States.answers(States.full(new Model())).equals(new BoundsTest(true).unchanged));
        for (boolean full : new boolean[] {false, true}) {
            BoundsTest test = new BoundsTest(full);
            for (Row row : rows(full)) {
                test.each(row);
            }
        }
        CHECK.end();
    }

    /** All calls. Two PERSONS must be unlike, so one stays 0 while the other is tried; what is next to that 0 is refused, too. */
    private static List<Row> rows(boolean full) {
        Range person = new Range(0, full ? 29 : 6, 1);
        Range anybody = new Range(-1, person.to, 1);
        Range block = new Range(0, full ? 11 : 2, 0);
        Range deed = new Range(0, full ? 19 : 2, 1);
        Range taking = new Range(0, full ? 11 : 1, 0);
        Range claim = new Range(0, full ? 8 : 2, 1);
        Range settlement = new Range(-1, full ? 7 : 1, 0);
        return List.of(
            new Row("book", TONGUE, WORD, YEAR, VERBS), new Row("write", TONGUE, new Range(1, 8, 3), null), new Row("wipe", TONGUE),
            new Row("fault", TONGUE), new Row("force", TONGUE), new Row("means", TONGUE, WORD, YEAR),
            new Row("let", TONGUE, VERB, THING, YEAR, FACTS), new Row("why", TONGUE, VERB, THING, YEAR, FACTS), new Row("unlike", YEAR, FACTS, PLACE),
            new Row("least", ACT, YEAR), new Row("doneBy", ACT, YEAR, FACTS),
            new Row("person", new Range(0, 200, 7), new Range(1, person.to, 1), new Range(0, 0, 0)),
            new Row("person", new Range(0, 200, 7), new Range(0, 0, 0), new Range(1, person.to, 1)),
            new Row("person", new Range(0, 200, 7), new Range(-1, -1, -1), new Range(-1, -1, -1)),
            new Row("die", person, YEAR), new Row("founder", person, KIN),
            new Row("say", new Range(1, person.to, 1), new Range(0, 0, 0), KIN, null), new Row("say", new Range(0, 0, 0), new Range(1, person.to, 1), KIN, null),
            new Row("of", person, KIN), new Row("odds", person, KIN),
            new Row("block", new Range(1, 1000000, 5)), new Row("paper", block, new Range(-1, 9, 3), YEAR), new Row("use", block, new Range(0, 1023, 3), YEAR),
            new Row("holds", block, YEAR, FLAG), new Row("deed", block, KIN, new Range(0, 5, 1), YEAR), new Row("could", deed), new Row("twice", block),
            new Row("take", block, KIN, YEAR), new Row("wronged", taking), new Row("shares", block, KIN, YEAR), new Row("share", block, anybody, YEAR),
            new Row("small", block, new Range(1, 1000000, 2)),
            new Row("claim", KIN, new Range(1, 100, 5), person, new Range(1, 5, 2), FACTS, new Range(1, 1000, 9)), new Row("founded", FACTS),
            new Row("falls", FACTS, FACT), new Row("hear", YEAR, PLACE), new Row("left", claim, YEAR, null),
            new Row("cousins", KIN, new Range(0, 9, 4)),
            new Row("settled", KIN, new Range(1, 9, 2), FLAG), new Row("settlement", new Range(1, 100000, 10), new Range(0, 50, 5)),
            new Row("topped", settlement), new Row("plan", new Range(1, 1000, 30), FACTS, PLACE), new Row("count", new Range(0, 11, 3)));
    }

    private <T> T begin(T on) {
        return full ? States.full(on) : States.told(on);
    }

    private void each(Row row) {
        for (int at = 0; at < row.ranges.length; at++) {
            Range range = row.ranges[at];
            if (range == null) continue;
            for (int number : inside(range)) taken(row, at, number);
            for (int number : outside(range)) refused(row, at, number);
        }
    }

    private static List<Integer> inside(Range range) {
        List<Integer> numbers = new ArrayList<>(List.of(range.from, range.to));
        if (range.from < range.to) numbers.addAll(List.of(range.from + 1, range.to - 1));
        return numbers;
    }

    private static List<Integer> outside(Range range) {
        List<Integer> numbers = new ArrayList<>(List.of(Integer.MIN_VALUE, range.from - 1));
        if (range.to != ANY) numbers.addAll(List.of(range.to + 1, Integer.MAX_VALUE));
        return numbers;
    }

    private static Object[] arguments(Row row, int at, int number) {
        Object[] arguments = new Object[row.ranges.length];
        for (int i = 0; i < arguments.length; i++) {
            boolean flag = row.ranges[i] == null && !row.name.equals("write");
            arguments[i] = flag ? (Object) true : row.ranges[i] == null ? (Object) 0x77302c312c33L : (Object) (i == at ? number : row.ranges[i].good);
        }
        return arguments;
    }

    private String told(Row row, Object[] arguments) {
        return row.name + java.util.Arrays.toString(arguments) + (full ? " when all is full" : " when something is told");
    }

    /** Taken, and as the model takes it; the orders of nine claims are too many for the model. */
    private void taken(Row row, int at, int number) {
        Object[] arguments = arguments(row, at, number);
        TwoTongues x = begin(new TwoTongues());
        long answer = States.call(x, row.name, arguments);
        CHECK.hold(told(row, arguments) + " is not BAD", answer != BAD);
        if (full) return;
        Model model = begin(new Model());
        CHECK.due(told(row, arguments), answer, States.call(model, row.name, arguments));
        CHECK.hold("as the model behind " + told(row, arguments), States.answers(x).equals(States.answers(model)));
    }

    private void refused(Row row, int at, int number) {
        Object[] arguments = arguments(row, at, number);
        TwoTongues x = begin(new TwoTongues());
        CHECK.due(told(row, arguments), States.call(x, row.name, arguments), BAD);
        CHECK.hold("nothing changes by " + told(row, arguments), States.answers(x).equals(unchanged));
    }
}
