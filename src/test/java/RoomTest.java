import java.lang.management.ManagementFactory;

/** All calls of one run live in one room: an object is small, and no call makes anything, but for the heirs' rows, which grow and are used again. */
public final class RoomTest {
    private static final Check CHECK = new Check();
    private static final int OBJECT = 32000;
    private static final int HEIRS = 64000;
    private static final int CALLS = 100;

    public static void main(String[] args) {
        bytesOfAll(new TwoTongues());
        long before = bytes();
        TwoTongues x = new TwoTongues();
        long made = bytes() - before;
        CHECK.hold("a new object took " + made, made < OBJECT);
        tell(x);
        long first = bytesOfAll(x);
        CHECK.hold("the first calls took " + first, first < HEIRS);
        long later = bytesOfAll(x);
        CHECK.hold("later calls took " + later, later < 1000);
        CHECK.end();
    }

    private static long bytes() {
        return ((com.sun.management.ThreadMXBean) ManagementFactory.getThreadMXBean()).getThreadAllocatedBytes(Thread.currentThread().getId());
    }

    /** Nine claims, two texts, and thirty persons of whom each has the two ahead of it as parents; all but the last die. */
    private static void tell(TwoTongues x) {
        Check.enact(x, 0, "w0,0,1;".repeat(10) + "l0,0,0,200,255;".repeat(10));
        Check.enact(x, 1, "w0,0,1;".repeat(10) + "b0,0,0,200,255;".repeat(10));
        x.block(1);
        for (int i = 0; i < 30; i++) {
            x.person(0, i < 2 ? -1 : i - 2, i < 2 ? -1 : i - 1);
            x.founder(i, i % 10);
            x.founder(i, 0);
        }
        x.shares(0, 0, 0);
        for (int i = 0; i < 29; i++) x.die(i, 9);
        for (int i = 0; i < 9; i++) x.claim(0, 1 + i, i, 1 + i % 5, 0, 100 * i + 1);
    }

    private static long bytesOfAll(TwoTongues x) {
        long before = bytes();
        long sum = 0;
        for (int i = 0; i < CALLS / 10; i++) {
            sum += x.share(0, 29, 200) + x.small(0, 1000000) + x.hear(5, 8) + x.plan(7, 255, 8) + x.settled(3, 5, 0);
            sum += x.least(0, 9) + x.doneBy(0, 9, 255) + x.unlike(9, 255, 35) + x.force(0) + x.fault(1);
        }
        CHECK.hold("it was asked", sum != 0);
        return bytes() - before;
    }
}
