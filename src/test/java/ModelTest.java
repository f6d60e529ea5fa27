import java.util.ArrayList;
import java.util.List;
import java.util.Random;

/** Runs of calls, drawn by a fixed seed, on TwoTongues and on the Model: all answers must be alike. */
public final class ModelTest {
    private static final int RUNS = 600;
    private static final int CALLS = 512;
    private static final int[] EDGES = {-1, -2, 0, 1, 5, 6, 7, 8, 9, 10, 11, 12, 20, 29, 30, 35, 36, 50, 51, 63, 64, 100, 101, 200, 201, 255, 256,
        1000, 1001, 1023, 1024, 100000, 100001, 1000000, 1000001, Integer.MIN_VALUE, Integer.MAX_VALUE};
    /** Each call with the kinds of its arguments. */
    private static final String[] FACE = {
        "book tongue word year verbs", "write tongue n long", "wipe tongue", "fault tongue", "force tongue", "means tongue word year",
        "let tongue verb thing year facts", "why tongue verb thing year facts", "unlike year facts place", "least act year", "doneBy act year facts",
        "person year parent parent", "die person year", "founder person kin", "say person person kin flag", "of person kin", "odds person kin",
        "block worth", "paper block owner year", "use block kins year", "holds block year flagNumber", "deed block kin buyer year", "could deed",
        "twice block", "take block kin year", "wronged taking", "shares block kin year", "share block anybody year", "small block pieces",
        "claim kin weight person time facts asked", "founded facts", "falls facts fact", "hear year place", "left claim year flag", "cousins kin kin",
        "settled kin k flagNumber", "settlement sum ratio", "topped settlement", "plan coin facts place", "count what"};

    /** What a run mostly calls, so that its calls meet one another; an empty row: everything. */
    private static final String[] TOPICS = {"", "book means let why unlike least doneBy", "person founder say of odds cousins settled",
        "person founder die block shares share small", "block paper use holds deed could twice take wronged claim left",
        "die claim founded falls hear plan settlement topped"};

    private final Random random;
    private final List<String> topic;
    private final TwoTongues x = new TwoTongues();
    private final Model model = new Model();
    private final List<String> log = new ArrayList<>();
    private final int wrongIn;
    private final int lastYear;
    private final int kins;
    private final int mostClaims;
    private int persons = 0;
    private int made = 0;

    private ModelTest(int seed) {
        random = new Random(seed);
        wrongIn = seed % 3 == 0 ? 4 : 60;
        lastYear = seed % 2 == 0 ? 200 : 12;
        kins = seed % 5 == 0 ? 10 : 3;
        mostClaims = seed % 40 == 0 ? 7 : 5;
        topic = List.of(TOPICS[seed % 7 % TOPICS.length].split(" "));
    }

    private boolean isOffTopic(String name) {
        return topic.size() > 1 && !topic.contains(name) && random.nextInt(12) != 0;
    }

    public static void main(String[] args) {
        Check check = new Check();
        for (int seed = 0; seed < RUNS; seed++) {
            check.hold("run " + seed + " is as the model", new ModelTest(seed).run());
        }
        check.end();
    }

    private boolean run() {
        int family = random.nextInt(25);
        for (int i = 0; i < family && persons < 30; i++) {
            if (!call("person")) return false;
        }
        while (made < CALLS) {
            boolean text = random.nextInt(isOffTopic("book") ? 200 : 12) == 0;
            if (!(text ? writeText() : call(null))) return false;
        }
        return true;
    }

    private boolean call(String name) {
        String[] row = FACE[random.nextInt(FACE.length)].split(" ");
        while (name != null && !row[0].equals(name)) {
            row = FACE[random.nextInt(FACE.length)].split(" ");
        }
        if (name == null && isOffTopic(row[0])) return true;
        if (row[0].equals("claim") && model.count(8) >= mostClaims && random.nextInt(3000) != 0) return true;
        if (row[0].equals("person") && name == null && random.nextInt(3) != 0) return true;
        if (row[0].equals("die") && random.nextInt(2) != 0) return true;
        boolean anyWrong = random.nextInt(wrongIn) == 0;
        int wrongAt = anyWrong ? 1 + random.nextInt(row.length - 1) : -1;
        Object[] arguments = new Object[row.length - 1];
        for (int i = 1; i < row.length; i++) {
            arguments[i - 1] = argument(row[i], i == wrongAt);
        }
        return alike(row[0], arguments);
    }

    /** What an object answers behind its last call is free, so none is made then. */
    private boolean alike(String name, Object... arguments) {
        if (made == CALLS) return true;
        made++;
        long got = States.call(x, name, arguments);
        long due = States.call(model, name, arguments);
        log.add(name + java.util.Arrays.toString(arguments) + " = " + due);
        persons = model.count(2);
        if (got == due) return true;
        log.forEach(System.out::println);
        System.out.println("the last one answered " + got);
        return false;
    }

    private Object argument(String kind, boolean wrong) {
        if (kind.equals("flag")) return random.nextBoolean();
        if (kind.equals("long")) return random.nextLong();
        return wrong ? EDGES[random.nextInt(EDGES.length)] : good(kind);
    }

    private int good(String kind) {
        switch (kind) {
            case "tongue": case "flagNumber": return random.nextInt(2);
            case "word": case "fact": return random.nextInt(8);
            case "verb": case "thing": case "buyer": return random.nextInt(6);
            case "year": return random.nextInt(lastYear + 1);
            case "verbs": return random.nextInt(64);
            case "n": return 1 + random.nextInt(8);
            case "facts": return random.nextInt(256) & (random.nextBoolean() ? 255 : 7);
            case "place": return random.nextInt(10) - 1;
            case "act": return random.nextInt(36);
            case "parent": return persons < 2 || random.nextInt(8) == 0 ? -1 : Math.max(0, persons - 1 - random.nextInt(persons < 6 ? persons : 6));
            case "person": return random.nextInt(Math.max(1, persons));
            case "anybody": return random.nextInt(persons + 1) - 1;
            case "kin": return random.nextInt(kins);
            case "owner": return random.nextInt(kins + 1) - 1;
            case "kins": return random.nextInt(1 << kins);
            case "worth": return 1 + random.nextInt(1000);
            case "block": return random.nextInt(Math.max(1, Math.min(model.count(4), 4)));
            case "deed": return random.nextInt(Math.max(1, model.count(6)));
            case "taking": return random.nextInt(Math.max(1, model.count(7)));
            case "pieces": return 1 + random.nextInt(random.nextBoolean() ? 10 : 1000000);
            case "weight": return 1 + random.nextInt(random.nextBoolean() ? 3 : 100);
            case "time": return 1 + random.nextInt(5);
            case "asked": case "coin": return 1 + random.nextInt(random.nextBoolean() ? 10 : 1000);
            case "claim": return random.nextInt(Math.max(1, model.count(8)));
            case "k": return 1 + random.nextInt(9);
            case "sum": return 1 + random.nextInt(100000);
            case "ratio": return random.nextInt(51);
            case "settlement": return random.nextInt(model.count(9) + 1) - 1;
            case "what": return random.nextInt(12);
            default: throw new IllegalStateException(kind);
        }
    }

    private boolean writeText() {
        int tongue = random.nextInt(2);
        StringBuilder text = new StringBuilder();
        int items = 1 + random.nextInt(random.nextInt(3) == 0 ? 25 : 8);
        for (int i = 0; i < items; i++) {
            text.append(item());
        }
        if (random.nextInt(6) == 0) {
            text.setCharAt(random.nextInt(text.length()), (char) random.nextInt(256));
        }
        if (random.nextInt(12) == 0) {
            text.deleteCharAt(random.nextInt(text.length()));
        }
        if (!alike("wipe", tongue)) return false;
        for (int at = 0; at < text.length(); at += 8) {
            String piece = text.substring(at, Math.min(at + 8, text.length()));
            if (!alike("write", tongue, piece.length(), Check.packed(piece))) return false;
        }
        return alike("fault", tongue) && alike("force", tongue);
    }

    private String item() {
        int from = random.nextInt(lastYear + 1);
        int to = random.nextInt(30) == 0 ? good("year") : from + random.nextInt(lastYear + 1 - from);
        int word = random.nextInt(random.nextInt(40) == 0 ? 9 : 8);
        if (random.nextInt(3) == 0) {
            return "w" + word + "," + from + "," + random.nextInt(random.nextInt(40) == 0 ? 65 : 64) + ";";
        }
        int facts = random.nextInt(3) == 0 ? 0 : 1 << random.nextInt(8) | 1 << random.nextInt(8);
        return (random.nextBoolean() ? "l" : "b") + word + "," + random.nextInt(6) + "," + from + "," + to + "," + facts + ";";
    }
}
