import java.util.List;

/** "Of several the first; nothing changes then.": each call that answers BAD, NO, NONE or FULL, and all that asks only, leaves all as it was. */
public final class RefusedTest {
    private static final Check CHECK = new Check();
    private static final int BAD = TwoTongues.BAD, NO = TwoTongues.NO, FULL = TwoTongues.FULL, NONE = TwoTongues.NONE;
    private static final List<Long> NEW = States.answers(new TwoTongues());
    private static final List<Long> TOLD = States.answers(States.told(new TwoTongues()));
    private static final List<Long> FILLED = States.answers(States.full(new TwoTongues()));

    public static void main(String[] args) {
        nothingToldYet();
        full();
        no();
        none();
        askingTellsNothing();
        CHECK.end();
    }

    private static String said(String name, Object[] arguments) {
        return name + java.util.Arrays.toString(arguments);
    }

    private static void refused(TwoTongues x, List<Long> answers, int due, String name, Object... arguments) {
        CHECK.due(said(name, arguments), States.call(x, name, arguments), due);
        CHECK.hold("nothing changes by " + said(name, arguments), States.answers(x).equals(answers));
    }

    private static void onNew(int due, String name, Object... arguments) {
        refused(new TwoTongues(), NEW, due, name, arguments);
    }

    private static void onTold(int due, String name, Object... arguments) {
        refused(States.told(new TwoTongues()), TOLD, due, name, arguments);
    }

    private static void onFull(int due, String name, Object... arguments) {
        refused(States.full(new TwoTongues()), FILLED, due, name, arguments);
    }

    /** Number 0 of what comes with numbers is none that is told, until it is. */
    private static void nothingToldYet() {
        onNew(BAD, "person", 0, 0, 1);
        onNew(BAD, "person", 0, 0, -1);
        onNew(BAD, "die", 0, 0);
        onNew(BAD, "founder", 0, 0);
        onNew(BAD, "say", 0, 1, 0, true);
        onNew(BAD, "of", 0, 0);
        onNew(BAD, "odds", 0, 0);
        onNew(BAD, "paper", 0, 0, 0);
        onNew(BAD, "use", 0, 0, 0);
        onNew(BAD, "holds", 0, 0, 0);
        onNew(BAD, "deed", 0, 0, 0, 0);
        onNew(BAD, "could", 0);
        onNew(BAD, "twice", 0);
        onNew(BAD, "take", 0, 0, 0);
        onNew(BAD, "wronged", 0);
        onNew(BAD, "shares", 0, 0, 0);
        onNew(BAD, "share", 0, -1, 0);
        onNew(BAD, "small", 0, 1);
        onNew(BAD, "claim", 0, 1, 0, 1, 0, 1);
        onNew(BAD, "left", 0, 0, false);
        onNew(BAD, "topped", 0);
        onNew(NO, "doneBy", 0, 0, 0);
        onNew(NONE, "fault", 0);
        onNew(NONE, "why", 0, 0, 0, 0, 0);
        onNew(NONE, "unlike", 0, 0, 0);
        onNew(NONE, "least", 0, 0);
        onNew(NONE, "hear", 0, 0);
        onNew(NONE, "plan", 1, 0, 0);
        onNew(0, "unlike", 0, 0, -1);
        onNew(0, "hear", 0, -1);
        onNew(0, "plan", 1, 0, -1);
        onNew(0, "topped", -1);
        onNew(0, "founded", 255);
        onNew(0, "falls", 255, 0);
        onNew(0, "cousins", 0, 9);
        onNew(0, "wipe", 0);
        onNew(0, "force", 1);
    }

    private static void full() {
        onFull(FULL, "book", 0, 0, 0, 0);
        onFull(FULL, "book", 1, 7, 200, 63);
        onFull(FULL, "write", 0, 1, 59L);
        onFull(FULL, "write", 0, 8, 0L);
        onFull(FULL, "write", 1, 1, 59L);
        onFull(FULL, "person", 0, -1, -1);
        onFull(FULL, "person", 200, 28, 29);
        onFull(FULL, "say", 0, 29, 0, true);
        onFull(FULL, "say", 0, 29, 0, false);
        onFull(FULL, "block", 1);
        onFull(FULL, "paper", 0, -1, 0);
        onFull(FULL, "paper", 0, 9, 200);
        onFull(FULL, "use", 0, 0, 0);
        onFull(FULL, "use", 0, 1023, 200);
        onFull(FULL, "deed", 0, 0, 0, 0);
        onFull(FULL, "take", 0, 0, 0);
        onFull(FULL, "claim", 0, 1, 0, 1, 0, 1);
        onFull(FULL, "settlement", 1, 0);
        onFull(BAD, "person", 0, 29, 30);
        onFull(BAD, "person", 0, 29, 29);
        onFull(BAD, "person", 0, 29, -1);
        onFull(BAD, "say", 29, 29, 0, true);
    }

    private static void no() {
        onTold(NO, "force", 1);
        onTold(NO, "doneBy", 35, 0, 0);
        onTold(NO, "die", 0, 69);
        onTold(NO, "die", 0, 70);
        onTold(NO, "die", 0, 200);
        onTold(NO, "die", 5, 59);
        onTold(NO, "die", 6, 199);
        onTold(NO, "founder", 0, 3);
        onTold(NO, "founder", 2, 9);
        onTold(NO, "shares", 0, 0, 40);
        onTold(NO, "shares", 0, 9, 29);
        onTold(NO, "shares", 0, 9, 80);
        onTold(NO, "share", 0, -1, 39);
        onTold(NO, "share", 0, 0, 0);
        onTold(NO, "share", 1, 0, 200);
        onTold(NO, "small", 2, 1000000);
    }

    private static void none() {
        onTold(NONE, "fault", 0);
        onTold(NONE, "why", 0, 5, 5, 0, 255);
        onTold(NONE, "unlike", 55, 2, 36);
        onTold(NONE, "least", 35, 0);
        onTold(NONE, "holds", 2, 200, 0);
        onTold(NONE, "holds", 0, 100, 0);
        onTold(NONE, "twice", 1);
        onTold(NONE, "small", 0, 1000000);
        onTold(NONE, "hear", 0, 3);
        onTold(NONE, "hear", 0, Integer.MAX_VALUE);
        onTold(NONE, "plan", 1, 0, 1);
        onTold(NONE, "plan", 1, 255, Integer.MAX_VALUE);
    }

    private static void askingTellsNothing() {
        Object[][] asking = {{"fault", 1}, {"means", 0, 0, 200}, {"let", 0, 0, 0, 0, 0}, {"why", 0, 0, 0, 0, 0}, {"unlike", 55, 2, -1}, {"least", 0, 55},
            {"doneBy", 6, 20, 2}, {"of", 6, 3}, {"odds", 6, 3}, {"holds", 0, 25, 0}, {"could", 0}, {"twice", 0}, {"wronged", 0}, {"share", 0, -1, 200},
            {"share", 0, 4, 200}, {"small", 0, 3}, {"founded", 255}, {"falls", 255, 0}, {"hear", 0, 2}, {"left", 0, 160, true}, {"cousins", 3, 4},
            {"settled", 3, 2, 0}, {"topped", 0}, {"plan", 1, 255, 2}, {"count", 11}};
        for (Object[] row : asking) {
            Object[] arguments = java.util.Arrays.copyOfRange(row, 1, row.length);
            TwoTongues x = States.told(new TwoTongues());
            long first = States.call(x, (String) row[0], arguments);
            CHECK.hold(said((String) row[0], arguments) + " has an answer", first >= 0);
            CHECK.due(said((String) row[0], arguments) + " again", States.call(x, (String) row[0], arguments), first);
            CHECK.hold("nothing changes by " + said((String) row[0], arguments), States.answers(x).equals(TOLD));
        }
    }
}
