/** Promises 31 to 41: CLAIMS, HEARINGS, what is left, SETTLEMENTS, the PLAN and count. */
public final class ClaimsTest {
    private static final Check CHECK = new Check();
    private static final int BAD = TwoTongues.BAD, FULL = TwoTongues.FULL, NONE = TwoTongues.NONE;

    public static void main(String[] args) {
        claim();
        founded();
        falls();
        hear();
        hearNine();
        left();
        cousins();
        settled();
        settlement();
        topped();
        plan();
        planNine();
        count();
        CHECK.end();
    }

    private static void due(String call, long got, long want) {
        CHECK.due(call, got, want);
    }

    private static TwoTongues withElders(int persons) {
        TwoTongues x = new TwoTongues();
        for (int i = 0; i < persons; i++) {
            x.person(0, -1, -1);
        }
        return x;
    }

    private static void claim() {
        TwoTongues x = new TwoTongues();
        due("no elder", x.claim(0, 1, 0, 1, 0, 1), BAD);
        x = withElders(1);
        int[][] wrong = {{-1, 1, 0, 1, 0, 1}, {10, 1, 0, 1, 0, 1}, {0, 0, 0, 1, 0, 1}, {0, 101, 0, 1, 0, 1}, {0, 1, 1, 1, 0, 1}, {0, 1, -1, 1, 0, 1},
            {0, 1, 0, 0, 0, 1}, {0, 1, 0, 6, 0, 1}, {0, 1, 0, 1, -1, 1}, {0, 1, 0, 1, 256, 1}, {0, 1, 0, 1, 0, 0}, {0, 1, 0, 1, 0, 1001}};
        for (int[] w : wrong) {
            due("claim bad", x.claim(w[0], w[1], w[2], w[3], w[4], w[5]), BAD);
        }
        due("claim", x.claim(0, 1, 0, 1, 0, 1), 0);
        for (int i = 1; i < 9; i++) {
            due("claim", x.claim(9, 100, 0, 5, 255, 1000), i);
        }
        due("full", x.claim(0, 1, 0, 1, 0, 1), FULL);
        due("bad ahead of full", x.claim(0, 0, 0, 1, 0, 1), BAD);
        due("count", x.count(8), 9);
    }

    private static TwoTongues needing(int... needed) {
        TwoTongues x = withElders(1);
        for (int need : needed) {
            x.claim(0, 1, 0, 1, need, 1);
        }
        return x;
    }

    private static void founded() {
        TwoTongues x = needing(0, 1, 3, 128, 255);
        int[][] rows = {{0, 1}, {1, 3}, {2, 1}, {3, 7}, {128, 9}, {131, 15}, {254, 9}, {255, 31}};
        for (int[] r : rows) {
            due("founded " + r[0], x.founded(r[0]), r[1]);
        }
        due("founded of none", new TwoTongues().founded(255), 0);
        due("founded facts", x.founded(256), BAD);
        due("founded facts", x.founded(-1), BAD);
    }

    private static void falls() {
        TwoTongues x = needing(0, 1, 3, 128, 255);
        int[][] rows = {{255, 0, 22}, {255, 1, 20}, {255, 2, 16}, {255, 7, 24}, {3, 0, 6}, {3, 1, 4}, {3, 2, 0}, {1, 0, 2}, {1, 1, 0}, {0, 0, 0}};
        for (int[] r : rows) {
            due("falls " + r[0] + " " + r[1], x.falls(r[0], r[1]), r[2]);
        }
        due("falls facts", x.falls(256, 0), BAD);
        due("falls facts", x.falls(-1, 0), BAD);
        due("falls f", x.falls(0, 8), BAD);
        due("falls f", x.falls(0, -1), BAD);
    }

    private static void dueHearing(TwoTongues x, int year, int weights, int... order) {
        due("hear in " + year, x.hear(year, -1), weights);
        for (int i = 0; i < order.length; i++) {
            due("hear in " + year + " at " + i, x.hear(year, i), order[i]);
        }
        due("hear behind the last", x.hear(year, order.length), NONE);
    }

    private static void hear() {
        TwoTongues x = withElders(4);
        dueHearing(x, 0, 0);
        x.die(0, 12);
        x.die(1, 11);
        x.die(2, 14);
        x.claim(0, 10, 0, 2, 0, 1);
        x.claim(0, 15, 1, 1, 0, 1);
        x.claim(0, 12, 2, 2, 0, 1);
        x.claim(0, 1, 3, 5, 0, 1);
        dueHearing(x, 10, 28, 1, 2, 0, 3);
        dueHearing(x, 9, 38, 1, 0, 2, 3);
        dueHearing(x, 11, 13, 1, 2, 0, 3);
        dueHearing(x, 200, 1, 0, 1, 2, 3);
        due("hear far", x.hear(0, 1000), NONE);
        due("hear i", x.hear(0, -2), BAD);
        due("hear year", x.hear(201, 0), BAD);
        due("hear year", x.hear(-1, 0), BAD);
        TwoTongues y = withElders(2);
        y.die(0, 200);
        y.claim(0, 7, 0, 5, 0, 1);
        y.claim(0, 5, 1, 5, 0, 1);
        due("past the last year the dead are dead, the others not", y.hear(198, -1), 5);
        due("past the last year", y.hear(195, -1), 12);
        due("past the last year", y.hear(196, -1), 5);
    }

    private static void hearNine() {
        TwoTongues x = withElders(9);
        for (int i = 0; i < 9; i++) {
            x.die(i, 101 + (8 - i));
            x.claim(0, 100, i, 1, 0, 1);
        }
        dueHearing(x, 100, 900, 8, 7, 6, 5, 4, 3, 2, 1, 0);
        dueHearing(x, 101, 800, 7, 6, 5, 4, 3, 2, 1, 0, 8);
        for (int i = 0; i < 300; i++) {
            due("hear again", x.hear(99, -1), 900);
        }
    }

    private static void left() {
        TwoTongues x = withElders(1);
        x.block(1000000);
        x.block(20);
        x.block(300);
        x.claim(3, 1, 0, 1, 0, 1);
        x.claim(4, 1, 0, 1, 0, 1);
        due("nothing taken", x.left(0, 0, false), 0);
        x.paper(0, 3, 0);
        x.paper(1, 3, 0);
        x.use(1, 16, 0);
        x.paper(0, -1, 60);
        x.paper(1, -1, 70);
        x.paper(0, 5, 90);
        x.take(0, 9, 50);
        x.take(0, 8, 51);
        x.take(1, 4, 50);
        int[][] rows = {{59, 0, 0, 0}, {60, 1000000, 1000000, 0}, {70, 1000020, 1000020, 0}, {90, 20, 20, 0}};
        for (int[] r : rows) {
            due("left in " + r[0], x.left(0, r[0], false), r[1]);
            due("back in " + r[0], x.left(0, r[0], true), r[2]);
            due("left of another in " + r[0], x.left(1, r[0], false), r[3]);
            due("back of another in " + r[0], x.left(1, r[0], true), r[3]);
        }
        x.take(1, 3, 55);
        due("left of both", x.left(0, 70, false), 1000020);
        due("another kin was wronged by another taking", x.left(0, 70, true), 1000000);
        due("left of both", x.left(1, 70, false), 20);
        due("another kin was wronged", x.left(1, 70, true), 0);
        due("left claim", x.left(2, 0, false), BAD);
        due("left claim", x.left(-1, 0, false), BAD);
        due("left year", x.left(0, 201, true), BAD);
        due("left year", x.left(0, -1, true), BAD);
    }

    private static TwoTongues kins() {
        TwoTongues x = withElders(3);
        x.person(20, 0, 1);
        x.person(20, 0, 1);
        x.person(20, 1, 2);
        x.founder(0, 0);
        x.founder(1, 9);
        x.founder(2, 5);
        return x;
    }

    private static void cousins() {
        TwoTongues x = kins();
        due("cousins", x.cousins(0, 9), 2);
        due("cousins", x.cousins(9, 0), 2);
        due("cousins", x.cousins(9, 5), 1);
        due("cousins", x.cousins(0, 5), 0);
        due("cousins", x.cousins(1, 2), 0);
        x.say(0, 5, 0, true);
        due("who may be of it is not of it", x.cousins(0, 5), 0);
        int[][] wrong = {{0, 0}, {10, 0}, {0, 10}, {-1, 0}, {0, -1}};
        for (int[] w : wrong) {
            due("cousins bad", x.cousins(w[0], w[1]), BAD);
        }
    }

    private static void settled() {
        TwoTongues x = kins();
        int[][] rows = {{0, 1, 1, 2}, {9, 1, 512, 3}, {5, 1, 32, 1}, {1, 1, 2, 0}, {0, 2, 513, 1}, {5, 2, 34, 1}, {5, 3, 545, 0}, {1, 2, 6, 0}, {1, 3, 14, 0}, {1, 9, 1023 - 256, 0}, {8, 9, 1023 - 128, 0}};
        for (int[] r : rows) {
            due("settled " + r[0] + " " + r[1], x.settled(r[0], r[1], 0), r[2]);
            due("cut " + r[0] + " " + r[1], x.settled(r[0], r[1], 1), r[3]);
        }
        TwoTongues none = new TwoTongues();
        due("nobody", none.settled(9, 3, 0), 512 + 3);
        due("nobody", none.settled(9, 3, 1), 0);
        int[][] wrong = {{-1, 1, 0}, {10, 1, 0}, {0, 0, 0}, {0, 10, 0}, {0, 1, -1}, {0, 1, 2}};
        for (int[] w : wrong) {
            due("settled bad", x.settled(w[0], w[1], w[2]), BAD);
        }
    }

    private static void settlement() {
        TwoTongues x = new TwoTongues();
        int[][] wrong = {{0, 0}, {100001, 0}, {-1, 0}, {1, -1}, {1, 51}};
        for (int[] w : wrong) {
            due("settlement bad", x.settlement(w[0], w[1]), BAD);
        }
        for (int i = 0; i < 8; i++) {
            due("settlement", x.settlement(100000, 50), i);
        }
        due("full", x.settlement(1, 1), FULL);
        due("bad ahead of full", x.settlement(1, 51), BAD);
        due("count", x.count(9), 8);
        due("the most", x.topped(-1), 800000 + 28 * 50000);
    }

    private static void topped() {
        TwoTongues x = new TwoTongues();
        due("none", x.topped(-1), 0);
        due("none", x.topped(0), BAD);
        x.settlement(50, 33);
        x.settlement(199, 1);
        x.settlement(199, 50);
        x.settlement(1, 50);
        due("each later sum, cut by itself", x.topped(0), 65 + 65);
        due("each later sum", x.topped(1), 1);
        due("cut to nothing", x.topped(2), 0);
        due("the last", x.topped(3), 0);
        due("all", x.topped(-1), 50 + 199 + 199 + 1 + 130 + 1);
        due("topped i", x.topped(4), BAD);
        due("topped i", x.topped(-2), BAD);
    }

    private static void duePlan(TwoTongues x, int coin, int facts, int wait, int... order) {
        due("plan by " + coin, x.plan(coin, facts, -1), wait);
        for (int i = 0; i < order.length; i++) {
            due("plan by " + coin + " at " + i, x.plan(coin, facts, i), order[i]);
        }
        due("plan behind the last", x.plan(coin, facts, order.length), NONE);
    }

    private static void plan() {
        TwoTongues x = withElders(1);
        duePlan(x, 1, 255, 0);
        x.claim(0, 1, 0, 1, 0, 100);
        x.claim(0, 3, 0, 1, 1, 100);
        x.claim(0, 2, 0, 1, 2, 50);
        duePlan(x, 50, 0, 1, 0);
        duePlan(x, 50, 2, 2, 2, 0);
        duePlan(x, 50, 3, 6 + 4, 2, 1, 0);
        duePlan(x, 100, 1, 1, 1, 0);
        duePlan(x, 99, 1, 3 + 2, 1, 0);
        duePlan(x, 200, 1, 0, 0, 1);
        duePlan(x, 249, 3, 1, 1, 2, 0);
        duePlan(x, 250, 3, 0, 0, 1, 2);
        duePlan(x, 1, 0, 99, 0);
        due("plan far", x.plan(1, 255, Integer.MAX_VALUE), NONE);
        int[][] wrong = {{0, 0, 0}, {1001, 0, 0}, {-1, 0, 0}, {1, 256, 0}, {1, -1, 0}, {1, 0, -2}};
        for (int[] w : wrong) {
            due("plan bad", x.plan(w[0], w[1], w[2]), BAD);
        }
    }

    private static void planNine() {
        TwoTongues x = withElders(1);
        for (int i = 0; i < 9; i++) {
            x.claim(0, 100, 0, 1, 0, 1000);
        }
        int wait = 0;
        for (int i = 1; i <= 9; i++) {
            wait += 100 * (1000 * i - 1);
        }
        for (int i = 0; i < 300; i++) {
            due("plan", x.plan(1, 0, -1), wait);
        }
        duePlan(x, 1000, 0, 3600, 0, 1, 2, 3, 4, 5, 6, 7, 8);
    }

    private static void count() {
        TwoTongues x = withElders(3);
        Check.enact(x, 0, "w0,0,0;");
        Check.enact(x, 1, "w0,0,0;l0,0,0,0,0;");
        Check.write(x, 1, "l");
        x.say(0, 1, 0, true);
        x.block(1);
        x.block(1);
        x.paper(0, 0, 0);
        x.use(0, 0, 0);
        x.use(0, 0, 0);
        for (int i = 0; i < 4; i++) {
            x.deed(0, 0, 0, 0);
        }
        for (int i = 0; i < 5; i++) {
            x.take(0, 0, 0);
        }
        for (int i = 0; i < 6; i++) {
            x.claim(0, 1, 0, 1, 0, 1);
        }
        for (int i = 0; i < 7; i++) {
            x.settlement(1, 0);
        }
        int[] due = {1, 2, 3, 1, 2, 3, 4, 5, 6, 7, 7, 19};
        for (int what = 0; what < due.length; what++) {
            due("count " + what, x.count(what), due[what]);
        }
        due("count what", x.count(12), BAD);
        due("count what", x.count(-1), BAD);
    }
}
