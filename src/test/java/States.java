import java.lang.reflect.Method;
import java.util.ArrayList;
import java.util.HashMap;
import java.util.List;
import java.util.Map;

/**
 * States that tests begin with, and all that an object answers in one. The same calls can be made on
 * TwoTongues and on the Model. A state and its answers together stay below the 512 calls of an object.
 */
final class States {
    private static final Map<String, Method> METHODS = new HashMap<>();

    private States() {
    }

    /** Makes a call by its name on a TwoTongues or on a Model. */
    static long call(Object on, String name, Object... arguments) {
        try {
            return ((Number) method(on.getClass(), name).invoke(on, arguments)).longValue();
        } catch (ReflectiveOperationException e) {
            throw new IllegalStateException(name + java.util.Arrays.toString(arguments) + " threw", e);
        }
    }

    private static Method method(Class<?> of, String name) {
        return METHODS.computeIfAbsent(of.getName() + "." + name, key -> {
            for (Method m : of.getMethods()) {
                if (m.getName().equals(name)) return m;
            }
            throw new IllegalStateException(key);
        });
    }

    static void text(Object on, int tongue, String text) {
        call(on, "wipe", tongue);
        for (int at = 0; at < text.length(); at += 8) {
            String piece = text.substring(at, Math.min(at + 8, text.length()));
            call(on, "write", tongue, piece.length(), Check.packed(piece));
        }
    }

    /** Something is told of everything, no store is full; the TEXTS are others than those IN FORCE. */
    static <T> T told(T on) {
        text(on, 0, "w0,0,3;l0,0,0,200,0;b1,1,50,60,1;");
        call(on, "force", 0);
        text(on, 1, "w0,0,1;l0,0,10,90,2;l1,1,0,200,0;");
        call(on, "force", 1);
        text(on, 0, "w2,0,63;l2,5,0,200,0;");
        text(on, 1, "w3,7,9;l3,4,0,200,255;x");
        int[][] book = {{0, 1, 20, 6}, {0, 7, 200, 63}, {1, 1, 30, 33}, {1, 0, 40, 2}};
        for (int[] b : book) call(on, "book", b[0], b[1], b[2], b[3]);
        int[][] persons = {{0, -1, -1}, {5, -1, -1}, {30, 0, 1}, {32, 0, 1}, {50, 2, 1}, {60, 2, 3}, {200, -1, -1}};
        for (int[] p : persons) call(on, "person", p[0], p[1], p[2]);
        int[][] deaths = {{0, 70}, {2, 80}, {3, 90}};
        for (int[] d : deaths) call(on, "die", d[0], d[1]);
        int[][] founders = {{0, 3}, {1, 3}, {1, 4}, {2, 9}};
        for (int[] f : founders) call(on, "founder", f[0], f[1]);
        call(on, "say", 0, 6, 3, true);
        call(on, "say", 1, 6, 3, false);
        call(on, "say", 2, 6, 4, true);
        for (int worth : new int[] {100, 2000, 30000}) call(on, "block", worth);
        int[][] papers = {{0, 3, 20}, {0, -1, 100}, {1, 4, 0}, {1, -1, 150}};
        for (int[] p : papers) call(on, "paper", p[0], p[1], p[2]);
        call(on, "use", 0, 24, 30);
        call(on, "use", 1, 513, 40);
        int[][] deeds = {{0, 3, 0, 25}, {1, 4, 5, 50}, {0, 4, 1, 35}};
        for (int[] d : deeds) call(on, "deed", d[0], d[1], d[2], d[3]);
        call(on, "take", 0, 4, 60);
        call(on, "take", 1, 9, 60);
        call(on, "shares", 0, 3, 40);
        int[][] claims = {{3, 10, 0, 2, 1, 100}, {4, 20, 2, 3, 2, 50}, {3, 30, 3, 1, 0, 7}};
        for (int[] c : claims) call(on, "claim", c[0], c[1], c[2], c[3], c[4], c[5]);
        call(on, "settlement", 1000, 17);
        call(on, "settlement", 500, 3);
        return on;
    }

    /** Every store is filled to its last place, the TEXTS too. */
    static <T> T full(T on) {
        text(on, 0, "w0,0,1;".repeat(27) + "l0,0,0,50,1;".repeat(4) + "ab ");
        text(on, 1, "w0,0,1;l0,0,0,99,0;" + "b1,1,50,60,1;".repeat(17));
        call(on, "force", 1);
        for (int i = 0; i < 20; i++) {
            call(on, "book", 0, i % 8, 10 * i, i);
            call(on, "book", 1, i % 8, 10 * i, 63 - i);
        }
        for (int i = 0; i < 30; i++) call(on, "person", i, i < 2 ? -1 : 0, i < 2 ? -1 : i - 1);
        int[][] founders = {{0, 3}, {1, 3}, {1, 4}, {2, 9}};
        for (int[] f : founders) call(on, "founder", f[0], f[1]);
        call(on, "die", 0, 70);
        call(on, "die", 2, 80);
        for (int i = 0; i < 20; i++) call(on, "say", i, 29, i % 3, i % 2 == 0);
        for (int i = 0; i < 12; i++) {
            call(on, "block", 1000 + i);
            call(on, "take", i / 2, 4, 60 + i);
        }
        for (int i = 0; i < 30; i++) {
            call(on, "paper", i % 4, i % 11 - 1, 5 * i);
            call(on, "use", i % 4, 30 * i, 6 * i);
        }
        for (int i = 0; i < 20; i++) call(on, "deed", i % 3, i % 4, i % 6, 10 * i);
        call(on, "shares", 0, 3, 40);
        for (int i = 0; i < 9; i++) call(on, "claim", 3 + i % 2, 1 + i, i % 3, 1 + i % 5, i, 10 + i);
        for (int i = 0; i < 8; i++) call(on, "settlement", 1000 + i, i);
        return on;
    }

    /** What an object answers to calls of every kind; at the end calls that tell more, so this is asked once. */
    static List<Long> answers(Object on) {
        List<Long> all = new ArrayList<>();
        for (int what = 0; what < 12; what++) all.add(call(on, "count", what));
        texts(on, all);
        persons(on, all);
        blocks(on, all);
        claims(on, all);
        tellMore(on, all);
        return all;
    }

    private static void texts(Object on, List<Long> all) {
        for (int tongue = 0; tongue < 2; tongue++) {
            all.add(call(on, "fault", tongue));
            for (int word = 0; word < 8; word++) {
                all.add(call(on, "means", tongue, word, 45));
                all.add(call(on, "means", tongue, word, 200));
            }
            for (int act = 0; act < 4; act++) all.add(call(on, "why", tongue, act / 2, act % 2, 55, 255));
            all.add(call(on, "let", tongue, 0, 0, 10, 0));
        }
        for (int i = -1; i < 3; i++) all.add(call(on, "unlike", 55, 2, i));
        all.add(call(on, "least", 0, 55));
        all.add(call(on, "least", 7, 55));
        all.add(call(on, "doneBy", 6, 20, 2));
    }

    private static void persons(Object on, List<Long> all) {
        for (int person = 0; person < 8; person++) {
            all.add(call(on, "of", person, 3));
            all.add(call(on, "of", person, 9));
        }
        for (int person : new int[] {6, 29}) {
            for (int kin : new int[] {0, 1, 2, 3, 4}) all.add(call(on, "odds", person, kin));
        }
        all.add(call(on, "cousins", 3, 4));
        all.add(call(on, "cousins", 3, 9));
        all.add(call(on, "settled", 3, 2, 0));
        all.add(call(on, "settled", 3, 2, 1));
    }

    private static void blocks(Object on, List<Long> all) {
        for (int block = 0; block < 3; block++) {
            for (int year : new int[] {29, 99, 200}) {
                all.add(call(on, "holds", block, year, 0));
                all.add(call(on, "holds", block, year, 1));
            }
            all.add(call(on, "twice", block));
            all.add(call(on, "small", block, 3));
        }
        for (int i = 0; i < 4; i++) {
            all.add(call(on, "could", i));
            all.add(call(on, "wronged", i));
        }
        for (int person = -1; person < 8; person++) {
            all.add(call(on, "share", 0, person, 40));
            all.add(call(on, "share", 0, person, 85));
        }
    }

    private static void claims(Object on, List<Long> all) {
        for (int facts = 0; facts < 4; facts++) all.add(call(on, "founded", facts));
        all.add(call(on, "falls", 255, 0));
        all.add(call(on, "falls", 255, 7));
        all.add(call(on, "left", 0, 160, false));
        all.add(call(on, "left", 0, 160, true));
        all.add(call(on, "left", 1, 120, false));
        for (int i = -1; i < 4; i++) {
            all.add(call(on, "topped", i));
            all.add(call(on, "hear", 68, i));
            all.add(call(on, "plan", 30, 3, i));
        }
    }

    /** How many there are, and the bytes of the TEXTS, show in what these answer. */
    private static void tellMore(Object on, List<Long> all) {
        for (int tongue = 0; tongue < 2; tongue++) {
            all.add(call(on, "book", tongue, 6, 199, 1));
            all.add(call(on, "force", tongue));
            all.add(call(on, "why", tongue, 0, 5, 9, 255));
            all.add(call(on, "write", tongue, 1, 59L));
        }
        for (int person = 0; person < 8; person++) all.add(call(on, "die", person, 150));
        all.add(call(on, "person", 10, -1, -1));
        all.add(call(on, "founder", 0, 3));
        all.add(call(on, "founder", 3, 3));
        all.add(call(on, "say", 0, 1, 0, true));
        all.add(call(on, "block", 1));
        all.add(call(on, "paper", 0, 0, 0));
        all.add(call(on, "deed", 0, 0, 0, 0));
        all.add(call(on, "take", 0, 0, 0));
        all.add(call(on, "claim", 0, 1, 0, 1, 0, 1));
        all.add(call(on, "settlement", 1, 0));
    }
}
