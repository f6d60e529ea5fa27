/** Promises 19 to 30: BLOCKS, who holds them, DEEDS, TAKINGS and SHARES. */
public final class BlocksTest {
    private static final Check CHECK = new Check();
    private static final int BAD = TwoTongues.BAD, NO = TwoTongues.NO, FULL = TwoTongues.FULL, NONE = TwoTongues.NONE;
    private static final long WHOLE = 1000000000000L;

    public static void main(String[] args) {
        block();
        paperAndUse();
        holds();
        deed();
        could();
        twice();
        take();
        wronged();
        shares();
        share();
        shareThroughDead();
        shareAsToldWhenAsked();
        shareThroughManyWays();
        deathsInTurn();
        small();
        CHECK.end();
    }

    private static void due(String call, long got, long want) {
        CHECK.due(call, got, want);
    }

    private static TwoTongues withBlocks(int blocks) {
        TwoTongues x = new TwoTongues();
        for (int i = 0; i < blocks; i++) {
            x.block(100);
        }
        return x;
    }

    private static void block() {
        TwoTongues x = new TwoTongues();
        due("worth", x.block(0), BAD);
        due("worth", x.block(1000001), BAD);
        due("worth", x.block(-1), BAD);
        due("block", x.block(1), 0);
        for (int i = 1; i < 12; i++) {
            due("block", x.block(1000000), i);
        }
        due("full", x.block(5), FULL);
        due("bad ahead of full", x.block(0), BAD);
        due("count", x.count(4), 12);
    }

    private static void paperAndUse() {
        TwoTongues x = withBlocks(1);
        int[][] wrong = {{1, 0, 0}, {-1, 0, 0}, {0, -2, 0}, {0, 10, 0}, {0, 0, -1}, {0, 0, 201}};
        for (int[] w : wrong) {
            due("paper bad", x.paper(w[0], w[1], w[2]), BAD);
        }
        int[][] wrongUse = {{1, 0, 0}, {-1, 0, 0}, {0, -1, 0}, {0, 1024, 0}, {0, 0, -1}, {0, 0, 201}};
        for (int[] w : wrongUse) {
            due("use bad", x.use(w[0], w[1], w[2]), BAD);
        }
        for (int i = 1; i <= 60; i += 2) {
            due("paper", x.paper(0, i % 11 - 1, 200), i);
            due("use", x.use(0, 1023, 0), i + 1);
        }
        due("paper full", x.paper(0, 1, 0), FULL);
        due("use full", x.use(0, 1, 0), FULL);
        due("bad ahead of full", x.paper(0, 10, 0), BAD);
        due("bad ahead of full", x.use(0, 1024, 0), BAD);
        due("full changes nothing", x.holds(0, 0, 0), NONE);
        due("full changes nothing", x.holds(0, 0, 1), 1023);
        due("count", x.count(5), 60);
    }

    private static void holds() {
        TwoTongues x = withBlocks(2);
        due("none at first", x.holds(0, 200, 0), NONE);
        due("nobody at first", x.holds(0, 200, 1), 0);
        x.paper(0, 4, 50);
        x.paper(0, 0, 10);
        x.paper(0, -1, 30);
        x.use(0, 5, 20);
        x.use(0, 0, 40);
        int[][] rows = {{9, NONE, 0}, {10, 0, 0}, {20, 0, 5}, {29, 0, 5}, {30, NONE, 5}, {40, NONE, 0}, {49, NONE, 0}, {50, 4, 0}, {200, 4, 0}};
        for (int[] r : rows) {
            due("paper in " + r[0], x.holds(0, r[0], 0), r[1]);
            due("use in " + r[0], x.holds(0, r[0], 1), r[2]);
            due("another block", x.holds(1, r[0], 0), NONE);
            due("another block", x.holds(1, r[0], 1), 0);
        }
        x.paper(0, 9, 30);
        x.use(0, 1023, 40);
        due("the latest told of one year", x.holds(0, 49, 0), 9);
        due("the latest told of one year", x.holds(0, 49, 1), 1023);
        int[][] wrong = {{2, 0, 0}, {-1, 0, 0}, {0, -1, 0}, {0, 201, 0}, {0, 0, -1}, {0, 0, 2}};
        for (int[] w : wrong) {
            due("holds bad", x.holds(w[0], w[1], w[2]), BAD);
        }
    }

    private static void deed() {
        TwoTongues x = withBlocks(1);
        int[][] wrong = {{1, 0, 0, 0}, {-1, 0, 0, 0}, {0, -1, 0, 0}, {0, 10, 0, 0}, {0, 0, -1, 0}, {0, 0, 6, 0}, {0, 0, 0, -1}, {0, 0, 0, 201}};
        for (int[] w : wrong) {
            due("deed bad", x.deed(w[0], w[1], w[2], w[3]), BAD);
        }
        for (int i = 0; i < 20; i++) {
            due("deed", x.deed(0, 9, 5, 200), i);
        }
        due("full", x.deed(0, 0, 0, 0), FULL);
        due("bad ahead of full", x.deed(0, 0, 6, 0), BAD);
        due("count", x.count(6), 20);
    }

    private static void could() {
        TwoTongues x = withBlocks(1);
        x.paper(0, 3, 10);
        x.use(0, 8, 20);
        x.use(0, 16, 30);
        x.use(0, 24, 40);
        x.paper(0, -1, 50);
        int[][] rows = {{3, 9, 0}, {3, 10, 2}, {3, 20, 2}, {3, 30, 1}, {4, 30, 1}, {3, 40, 1}, {4, 40, 1}, {5, 40, 0}, {3, 50, 1}, {4, 10, 0}, {5, 10, 0}};
        for (int i = 0; i < rows.length; i++) {
            due("deed", x.deed(0, rows[i][0], 0, rows[i][1]), i);
            due("could " + rows[i][0] + " in " + rows[i][1], x.could(i), rows[i][2]);
        }
        x.use(0, 0, 40);
        due("by what is told now", x.could(5), 2);
        due("could deed", x.could(rows.length), BAD);
        due("could deed", x.could(-1), BAD);
    }

    private static void twice() {
        TwoTongues x = withBlocks(3);
        due("no deed", x.twice(0), NONE);
        x.deed(1, 5, 0, 90);
        x.deed(0, 3, 0, 90);
        due("one deed", x.twice(0), NONE);
        x.deed(0, 3, 1, 80);
        due("by one kin", x.twice(0), NONE);
        x.deed(1, 5, 1, 80);
        x.deed(0, 4, 1, 10);
        due("by two", x.twice(0), 104);
        x.deed(0, 5, 1, 10);
        due("the first stays", x.twice(0), 104);
        due("the other block", x.twice(1), NONE);
        x.deed(1, 6, 1, 80);
        due("the other block", x.twice(1), 6);
        due("the third", x.twice(2), NONE);
        due("twice block", x.twice(3), BAD);
        due("twice block", x.twice(-1), BAD);
    }

    private static void take() {
        TwoTongues x = withBlocks(1);
        int[][] wrong = {{1, 0, 0}, {-1, 0, 0}, {0, -1, 0}, {0, 10, 0}, {0, 0, -1}, {0, 0, 201}};
        for (int[] w : wrong) {
            due("take bad", x.take(w[0], w[1], w[2]), BAD);
        }
        for (int i = 0; i < 12; i++) {
            due("take", x.take(0, 9, 200), i);
        }
        due("full", x.take(0, 0, 0), FULL);
        due("bad ahead of full", x.take(0, 10, 0), BAD);
        due("count", x.count(7), 12);
    }

    private static void wronged() {
        TwoTongues x = withBlocks(2);
        x.paper(0, 9, 10);
        x.use(0, 7, 20);
        int[][] rows = {{0, 9, 0}, {0, 10, 512}, {9, 10, 0}, {9, 20, 7}, {1, 20, 512 + 5}, {5, 20, 512 + 7}};
        for (int i = 0; i < rows.length; i++) {
            due("take", x.take(0, rows[i][0], rows[i][1]), i);
            due("wronged " + i, x.wronged(i), rows[i][2]);
        }
        x.paper(0, 0, 15);
        due("by what is told now", x.wronged(5), 7);
        x.take(1, 0, 20);
        due("another block", x.wronged(rows.length), 0);
        due("wronged taking", x.wronged(rows.length + 1), BAD);
        due("wronged taking", x.wronged(-1), BAD);
    }

    private static void shares() {
        TwoTongues x = withBlocks(1);
        due("no founder", x.shares(0, 0, 0), NO);
        x.person(10, -1, -1);
        x.person(20, -1, -1);
        x.person(20, -1, -1);
        x.founder(0, 1);
        x.founder(1, 1);
        x.die(0, 30);
        due("not yet born", x.shares(0, 1, 9), NO);
        due("born by then", x.shares(0, 1, 10), 1);
        due("both", x.shares(0, 1, 20), 2);
        due("both", x.shares(0, 1, 29), 2);
        due("dead then", x.shares(0, 1, 30), 1);
        due("another kin", x.shares(0, 2, 30), NO);
        due("no changes nothing", x.share(0, 1, 30), WHOLE);
        x.die(1, 40);
        due("all dead", x.shares(0, 1, 40), NO);
        int[][] wrong = {{1, 1, 20}, {-1, 1, 20}, {0, -1, 20}, {0, 10, 20}, {0, 1, -1}, {0, 1, 201}};
        for (int[] w : wrong) {
            due("shares bad", x.shares(w[0], w[1], w[2]), BAD);
        }
    }

    private static void share() {
        TwoTongues x = withBlocks(2);
        for (int i = 0; i < 3; i++) {
            x.person(0, -1, -1);
            x.founder(i, 2);
        }
        due("no shares", x.share(0, 0, 10), NO);
        due("no shares", x.share(0, -1, 10), NO);
        due("among three", x.shares(0, 2, 10), 3);
        due("a third, cut", x.share(0, 0, 10), 333333333333L);
        due("what is over", x.share(0, -1, 10), 1);
        due("a year ahead", x.share(0, 0, 9), NO);
        due("another block", x.share(1, 0, 10), NO);
        x.person(40, 0, 1);
        x.person(60, 0, 1);
        x.person(61, 0, 1);
        x.die(0, 60);
        due("till it is dead", x.share(0, 0, 59), 333333333333L);
        due("none left", x.share(0, 0, 60), 0);
        due("half of it, cut", x.share(0, 3, 60), 166666666666L);
        due("half of it, cut, to one born that year", x.share(0, 4, 60), 166666666666L);
        due("born too late", x.share(0, 5, 200), 0);
        due("the other parent has its own", x.share(0, 1, 200), 333333333333L);
        due("what is over", x.share(0, -1, 60), 2);
        x.die(2, 70);
        due("nobody gets it", x.share(0, -1, 70), 333333333335L);
        due("told anew", x.shares(0, 2, 65), 2);
        due("told anew", x.share(0, 1, 65), 500000000000L);
        due("told anew", x.share(0, 3, 65), 0);
        due("ahead of these", x.share(0, 3, 64), NO);
        int[][] wrong = {{2, 0, 70}, {-1, 0, 70}, {0, 6, 70}, {0, -2, 70}, {0, 0, 201}, {0, 0, -1}};
        for (int[] w : wrong) {
            due("share bad", x.share(w[0], w[1], w[2]), BAD);
        }
        due("bad ahead of no", x.share(1, 6, 0), BAD);
    }

    private static void shareThroughDead() {
        TwoTongues x = withBlocks(1);
        x.person(0, -1, -1);
        x.person(0, -1, -1);
        x.founder(0, 0);
        x.person(20, 0, 1);
        x.person(20, 0, 1);
        x.person(20, 0, 1);
        x.person(40, 2, 1);
        x.person(40, 2, 1);
        x.person(70, 2, 1);
        x.die(2, 50);
        x.die(3, 60);
        x.die(0, 60);
        x.die(5, 61);
        due("shares", x.shares(0, 0, 0), 1);
        due("through a dead child, cut", x.share(0, 5, 60), 166666666666L);
        due("through a dead child, cut", x.share(0, 6, 60), 166666666666L);
        due("a child of a dead one, born later", x.share(0, 7, 200), 0);
        due("of a living child", x.share(0, 4, 60), 333333333333L);
        due("of one dead that year without children: nobody", x.share(0, -1, 60), 333333333333L + 1 + 1);
        due("that one dies too", x.share(0, -1, 61), 333333333333L + 2 + 166666666666L);
        due("the dead have none", x.share(0, 3, 60) + x.share(0, 2, 60) + x.share(0, 5, 61), 0);
    }

    private static void shareAsToldWhenAsked() {
        TwoTongues x = withBlocks(1);
        x.person(0, -1, -1);
        x.person(0, -1, -1);
        x.founder(0, 0);
        x.shares(0, 0, 50);
        due("alone", x.share(0, 0, 50), WHOLE);
        x.founder(1, 0);
        due("a founder told later", x.share(0, 0, 50), WHOLE / 2);
        x.die(0, 40);
        due("dead ahead of the shares, told later", x.share(0, 1, 50), WHOLE);
        x.die(1, 40);
        due("no founder is left", x.share(0, 1, 50), 0);
        due("no founder is left: all lapsed", x.share(0, -1, 50), WHOLE);
        due("no founder is left", x.small(0, 1), NONE);
    }

    /** Each has the two ahead of it as parents and all but the last are dead: the ways are many. */
    private static void shareThroughManyWays() {
        TwoTongues x = withBlocks(1);
        x.person(0, -1, -1);
        x.person(0, -1, -1);
        for (int i = 2; i < 30; i++) {
            x.person(1, i - 2, i - 1);
        }
        for (int i = 0; i < 29; i++) {
            x.die(i, 9);
        }
        x.founder(0, 0);
        x.shares(0, 0, 0);
        long[] due = new long[30];
        long lapsed = walk(0, WHOLE, due);
        due("the last", x.share(0, 29, 9), due[29]);
        for (int i = 0; i < 200; i++) {
            due("what lapsed", x.share(0, -1, 9), lapsed);
        }
    }

    /** Those who die later have lower numbers, and more than one dies in a year. */
    private static void deathsInTurn() {
        TwoTongues x = withBlocks(1);
        for (int i = 0; i < 4; i++) {
            x.person(0, -1, -1);
            x.founder(i, 0);
        }
        x.person(5, 2, 3);
        x.person(5, 0, 1);
        x.die(3, 10);
        x.die(2, 11);
        x.die(1, 12);
        x.die(0, 12);
        x.shares(0, 0, 6);
        due("of the first", x.share(0, 4, 10), WHOLE / 4);
        due("of both", x.share(0, 4, 11), WHOLE / 2);
        due("nobody else yet", x.share(0, 5, 11), 0);
        due("of both", x.share(0, 5, 12), WHOLE / 2);
        due("as ahead", x.share(0, 4, 12), WHOLE / 2);
        due("nothing lapsed", x.share(0, -1, 200), 0);
    }

    private static long walk(int dead, long part, long[] due) {
        if (dead == 29) {
            due[29] += part;
            return 0;
        }
        if (dead == 28 || dead == 0) {
            return walk(dead == 0 ? 2 : 29, part, due);
        }
        return part - part / 2 * 2 + walk(dead + 1, part / 2, due) + walk(dead + 2, part / 2, due);
    }

    private static void small() {
        TwoTongues x = withBlocks(2);
        for (int i = 0; i < 3; i++) {
            x.person(0, -1, -1);
            x.founder(i, 2);
        }
        due("no shares", x.small(0, 3), NO);
        x.shares(0, 2, 10);
        due("less than the whole", x.small(0, 1), 10);
        due("333333333333 is less than a third", x.small(0, 3), 10);
        due("but no less than a fourth", x.small(0, 4), NONE);
        x.person(0, 0, 1);
        x.person(0, 0, 1);
        x.die(0, 200);
        due("in the last year", x.small(0, 4), 200);
        due("a sixth", x.small(0, 6), 200);
        due("a seventh", x.small(0, 7), NONE);
        due("a millionth", x.small(0, 1000000), NONE);
        x.die(2, 100);
        due("nobody is not some one", x.small(0, 4), 200);
        x.person(0, 3, 4);
        x.person(0, 3, 4);
        x.die(4, 150);
        due("through a dead child, less than a twelfth", x.small(0, 12), 200);
        due("but no less than a thirteenth", x.small(0, 13), NONE);
        x.die(3, 200);
        due("through both dead children, a sixth", x.small(0, 6), 200);
        due("through both dead children", x.small(0, 7), NONE);
        int[][] wrong = {{2, 3}, {-1, 3}, {0, 0}, {0, -1}, {0, 1000001}};
        for (int[] w : wrong) {
            due("small bad", x.small(w[0], w[1]), BAD);
        }
        due("bad ahead of no", x.small(1, 0), BAD);
    }
}
