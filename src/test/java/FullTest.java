import java.lang.reflect.Method;
import java.util.Random;

/** Every store filled to its last place, and every call made then with numbers of all kinds: none may throw (LANGUAGE.md, rule 7). */
public final class FullTest {
    private static final int[] NUMBERS = {Integer.MIN_VALUE, -1000, -5, -2, -1, 0, 1, 2, 5, 6, 7, 8, 9, 10, 11, 12, 19, 20, 29, 30, 31, 35, 36, 59, 60,
        63, 64, 100, 101, 199, 200, 201, 255, 256, 1000, 1001, 1023, 1024, 1000000, 1000001, Integer.MAX_VALUE};

    private static final int OBJECTS = 10;
    private static final int CALLS = 200;

    public static void main(String[] args) {
        Check check = new Check();
        check.hold("a new object throws nothing", callAll(false));
        check.hold("a full object throws nothing", callAll(true));
        TwoTongues x = full();
        int[] due = {34, 21, 30, 20, 12, 60, 20, 12, 9, 8, 240, 240};
        for (int what = 0; what < due.length; what++) {
            check.due("count " + what + " of a full one", x.count(what), due[what]);
        }
        check.due("settled of all kins", x.settled(0, 1, 1), 30 * 9);
        check.due("cousins of all persons", x.cousins(0, 9), 30);
        check.due("founders of the last kin", x.shares(11, 9, 10), 2);
        check.due("a half of the last block", x.share(11, 1, 10), 500000000000L);
        check.due("hear the last", x.hear(0, 8), 8);
        check.due("plan the last", x.plan(1, 255, 8), 8);
        check.due("worth of all", x.left(8, 200, false), 12000000);
        check.end();
    }

    /** Some 310 calls of the 512 that an object is used for. */
    private static TwoTongues full() {
        TwoTongues x = new TwoTongues();
        Check.enact(x, 0, "w0,0,0;".repeat(34));
        Check.write(x, 0, "ab");
        Check.enact(x, 1, "l0,0,0,0,0;".repeat(21));
        Check.write(x, 1, "abcdefghi");
        for (int i = 0; i < 20; i++) {
            x.book(0, 7, 200, 63);
            x.book(1, 7, 200, 63);
        }
        for (int i = 0; i < 30; i++) {
            x.person(i < 2 ? 0 : 10, i < 2 ? -1 : 0, i < 2 ? -1 : i - 1);
            for (int kin = 0; kin < 10 && i < 2; kin++) {
                x.founder(i, kin);
            }
        }
        for (int i = 0; i < 20; i++) {
            x.say(29, 28, 9, true);
        }
        for (int i = 0; i < 12; i++) {
            x.block(1000000);
            x.take(i, 0, 100);
            x.shares(i, 0, 10);
        }
        for (int i = 0; i < 60; i++) {
            x.use(i % 12, 1023, 50);
        }
        for (int i = 0; i < 20; i++) {
            x.deed(11, 9, 5, 200);
        }
        for (int i = 0; i < 9; i++) {
            x.claim(9, 100, 29, 5, 255, 1000);
        }
        for (int i = 0; i < 8; i++) {
            x.settlement(100000, 50);
        }
        return x;
    }

    private static boolean callAll(boolean full) {
        boolean good = true;
        for (Method m : TwoTongues.class.getDeclaredMethods()) {
            for (int seed = 0; seed < OBJECTS && java.lang.reflect.Modifier.isPublic(m.getModifiers()); seed++) {
                good &= goesWell(full ? full() : new TwoTongues(), m, new Random(seed));
            }
        }
        return good;
    }

    private static boolean goesWell(TwoTongues x, Method m, Random random) {
        boolean good = true;
        for (int i = 0; i < CALLS; i++) {
            good &= goesWell(x, m, arguments(m, random));
        }
        return good;
    }

    private static Object[] arguments(Method m, Random random) {
        Object[] arguments = new Object[m.getParameterCount()];
        for (int i = 0; i < arguments.length; i++) {
            Class<?> type = m.getParameterTypes()[i];
            int number = NUMBERS[random.nextInt(NUMBERS.length)];
            arguments[i] = type == boolean.class ? (Object) random.nextBoolean() : type == long.class ? (Object) random.nextLong() : (Object) number;
        }
        return arguments;
    }

    private static boolean goesWell(TwoTongues x, Method m, Object[] arguments) {
        try {
            m.invoke(x, arguments);
            return true;
        } catch (ReflectiveOperationException e) {
            System.out.println(m.getName() + java.util.Arrays.toString(arguments) + " threw " + e.getCause());
            return false;
        }
    }
}
