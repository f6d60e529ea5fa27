/** Terms 2, its BLOCKS, DEEDS, TAKINGS and SHARES, and promises 19 to 30 at their edges, sentence by sentence. */
public final class BlockEdgesTest {
    private static final Check CHECK = new Check();
    private static final int BAD = TwoTongues.BAD, NO = TwoTongues.NO, FULL = TwoTongues.FULL, NONE = TwoTongues.NONE;
    private static final long WHOLE = 1000000000000L;

    public static void main(String[] args) {
        twelveBlocks();
        worth();
        sixtyPapersAndUses();
        paperFromAYearOn();
        useFromAYearOn();
        latestToldOfOneYear();
        twentyDeeds();
        couldSell();
        couldSellByYears();
        soldTwice();
        twelveTakings();
        wronged();
        foundersOfShares();
        alikeParts();
        sharesToldAnew();
        sharesAsToldWhenAsked();
        yearsOfAShare();
        deadInAYear();
        childrenBornByThen();
        deadChildren();
        byNumbers();
        partsCut();
        nobodyGetsIt();
        smallByN();
        smallYears();
        smallByAMillion();
        CHECK.end();
    }

    private static void due(String call, long got, long want) {
        CHECK.due(call, got, want);
    }

    private static TwoTongues withBlocks(int blocks) {
        TwoTongues x = new TwoTongues();
        for (int i = 0; i < blocks; i++) x.block(1);
        return x;
    }

    // "BLOCKS 0 to 11 as they come"; promise 19: "FULL: 12."
    private static void twelveBlocks() {
        TwoTongues x = new TwoTongues();
        for (int i = 0; i < 12; i++) {
            due("none yet", x.twice(i), BAD);
            due("number " + i, x.block(1 + i), i);
            due("there it is", x.twice(i), NONE);
            due("how many", x.count(4), i + 1);
        }
        due("the 13th", x.block(1), FULL);
        due("wrong, when full", x.block(0), BAD);
        due("wrong, when full", x.block(1000001), BAD);
        due("12 still", x.count(4), 12);
        due("the 13th is none", x.twice(12), BAD);
    }

    // "WORTH (1 to 1000000)"
    private static void worth() {
        for (int worth : new int[] {Integer.MIN_VALUE, -1, 0, 1000001, Integer.MAX_VALUE}) {
            TwoTongues x = new TwoTongues();
            due("worth " + worth, x.block(worth), BAD);
            due("worth " + worth, x.count(4), 0);
        }
        for (int worth : new int[] {1, 2, 999999, 1000000}) {
            TwoTongues x = new TwoTongues();
            due("worth " + worth, x.block(worth), 0);
            x.person(0, -1, -1);
            x.claim(0, 1, 0, 1, 0, 1);
            x.use(0, 1, 0);
            x.take(0, 1, 0);
            due("worth " + worth + " as told", x.left(0, 0, false), worth);
        }
    }

    // "60 PAPERS and USES in all"
    private static void sixtyPapersAndUses() {
        for (int papers = 0; papers <= 60; papers += 20) {
            TwoTongues x = withBlocks(2);
            for (int i = 1; i <= 60; i++) due("paper or use " + i, i <= papers ? x.paper(0, 1, 50) : x.use(1, 2, 50), i);
            due("a paper more", x.paper(0, 9, 60), FULL);
            due("a use more", x.use(1, 1023, 60), FULL);
            due("of the other block", x.paper(1, 9, 60), FULL);
            due("of the other block", x.use(0, 1023, 60), FULL);
            due("wrong, when full", x.paper(2, 9, 60), BAD);
            due("wrong, when full", x.use(0, 1024, 60), BAD);
            due("60 still", x.count(5), 60);
            due("the papers stand", x.holds(0, 200, 0), papers == 0 ? NONE : 1);
            due("the uses stand", x.holds(1, 200, 1), papers == 60 ? 0 : 2);
            due("none of the others", x.holds(1, 200, 0), NONE);
            due("none of the others", x.holds(0, 200, 1), 0);
        }
        TwoTongues x = withBlocks(1);
        for (int i = 1; i < 60; i++) x.use(0, 1, 0);
        due("the 60th", x.paper(0, 9, 200), 60);
        due("the 60th stands", x.holds(0, 200, 0), 9);
    }

    // "PAPER: a KIN (-1: none) from a YEAR on: as told for the latest YEAR that is no later; none at first"
    private static void paperFromAYearOn() {
        TwoTongues x = withBlocks(1);
        due("none at first", x.holds(0, 0, 0), NONE);
        due("none at first", x.holds(0, 200, 0), NONE);
        int[][] wrong = {{0, -2, 0}, {0, 10, 0}, {0, 0, -1}, {0, 0, 201}, {1, 0, 0}, {-1, 0, 0}};
        for (int[] w : wrong) due("paper wrong", x.paper(w[0], w[1], w[2]), BAD);
        due("the last year, the last kin", x.paper(0, 9, 200), 1);
        due("ahead", x.holds(0, 199, 0), NONE);
        due("in it", x.holds(0, 200, 0), 9);
        due("the first year, the first kin", x.paper(0, 0, 0), 2);
        due("in it", x.holds(0, 0, 0), 0);
        due("behind", x.holds(0, 1, 0), 0);
        due("up to the next", x.holds(0, 199, 0), 0);
        due("the next", x.holds(0, 200, 0), 9);
        due("none from then on", x.paper(0, -1, 100), 3);
        due("ahead", x.holds(0, 99, 0), 0);
        due("none in it", x.holds(0, 100, 0), NONE);
        due("none behind it", x.holds(0, 199, 0), NONE);
        due("no use is told", x.holds(0, 200, 1), 0);
        for (int what : new int[] {-1, 2}) due("what is none", x.holds(0, 0, what), BAD);
    }

    // "USE: a set of KINS from a YEAR on"; promise 21: "(0 to 1023)"
    private static void useFromAYearOn() {
        TwoTongues x = withBlocks(1);
        int[][] wrong = {{0, -1, 0}, {0, 1024, 0}, {0, 0, -1}, {0, 0, 201}, {1, 0, 0}, {-1, 0, 0}};
        for (int[] w : wrong) due("use wrong", x.use(w[0], w[1], w[2]), BAD);
        due("the last year, all kins", x.use(0, 1023, 200), 1);
        due("ahead", x.holds(0, 199, 1), 0);
        due("in it", x.holds(0, 200, 1), 1023);
        due("the first year", x.use(0, 1, 0), 2);
        due("in it", x.holds(0, 0, 1), 1);
        due("up to the next", x.holds(0, 199, 1), 1);
        due("the next", x.holds(0, 200, 1), 1023);
        due("nobody from then on", x.use(0, 0, 100), 3);
        due("ahead", x.holds(0, 99, 1), 1);
        due("nobody in it", x.holds(0, 100, 1), 0);
        due("nobody behind it", x.holds(0, 199, 1), 0);
        due("no paper is told", x.holds(0, 200, 0), NONE);
    }

    // "of one YEAR as told latest"
    private static void latestToldOfOneYear() {
        TwoTongues x = withBlocks(1);
        x.paper(0, 1, 50);
        x.use(0, 1, 50);
        x.paper(0, 2, 50);
        x.use(0, 2, 50);
        due("paper told latest", x.holds(0, 50, 0), 2);
        due("use told latest", x.holds(0, 50, 1), 2);
        x.paper(0, 3, 49);
        x.use(0, 3, 49);
        due("a year ahead told later", x.holds(0, 50, 0), 2);
        due("a year ahead told later", x.holds(0, 50, 1), 2);
        due("a year ahead", x.holds(0, 49, 0), 3);
        x.paper(0, 4, 51);
        x.use(0, 4, 51);
        x.paper(0, -1, 50);
        x.use(0, 0, 50);
        due("none told latest", x.holds(0, 50, 0), NONE);
        due("none told latest", x.holds(0, 50, 1), 0);
        due("a year later stands", x.holds(0, 51, 0), 4);
        due("a year later stands", x.holds(0, 51, 1), 4);
    }

    // "DEEDS, 20 at most: a BLOCK sold by a KIN in a YEAR to a buyer (0 to 5)."
    private static void twentyDeeds() {
        TwoTongues x = withBlocks(2);
        int[][] wrong = {{2, 0, 0, 0}, {-1, 0, 0, 0}, {0, -1, 0, 0}, {0, 10, 0, 0}, {0, 0, -1, 0}, {0, 0, 6, 0}, {0, 0, 0, -1}, {0, 0, 0, 201}};
        for (int[] w : wrong) due("deed wrong", x.deed(w[0], w[1], w[2], w[3]), BAD);
        due("none came", x.count(6), 0);
        for (int i = 0; i < 20; i++) {
            due("none yet", x.could(i), BAD);
            due("number " + i, x.deed(1, i % 2 * 9, i % 2 * 5, i % 2 * 200), i);
            due("there it is", x.could(i), 0);
        }
        due("the 21st", x.deed(0, 0, 0, 0), FULL);
        due("the 21st", x.deed(0, 1, 0, 0), FULL);
        for (int[] w : wrong) due("wrong, when full", x.deed(w[0], w[1], w[2], w[3]), BAD);
        due("20 still", x.count(6), 20);
        due("the 21st is none", x.could(20), BAD);
        due("ahead of the first", x.could(-1), BAD);
        due("none of the other block", x.twice(0), NONE);
    }

    // "COULD SELL that KIN: 2, if PAPER that YEAR is its own and USE is it alone or nobody; 1, if PAPER is its own, or it is in USE; else 0."
    private static void couldSell() {
        for (int kin : new int[] {0, 9}) {
            int own = 1 << kin;
            int[][] rows = {{kin, 0, 2}, {kin, own, 2}, {kin, own | 2, 1}, {kin, 2, 1}, {kin, 1023, 1}, {kin, 1023 - own, 1}, {-1, own, 1}, {-1, own | 2, 1}, {-1, 0, 0},
                {-1, 2, 0}, {1, own, 1}, {1, 1023, 1}, {1, 0, 0}, {1, 2, 0}, {1, 1023 - own, 0}};
            for (int[] r : rows) {
                TwoTongues x = withBlocks(1);
                x.deed(0, kin, 0, 50);
                x.paper(0, r[0], 50);
                x.use(0, r[1], 50);
                due("paper of " + r[0] + ", use " + r[1] + ", sold by " + kin, x.could(0), r[2]);
            }
        }
    }

    private static void couldSellByYears() {
        TwoTongues x = withBlocks(2);
        x.paper(0, 3, 50);
        x.use(0, 16, 60);
        x.paper(1, 4, 0);
        int[][] rows = {{49, 0, 0}, {50, 2, 0}, {59, 2, 0}, {60, 1, 1}, {200, 1, 1}};
        for (int[] r : rows) {
            due("kin 3 in " + r[0], x.could(x.deed(0, 3, 0, r[0])), r[1]);
            due("kin 4 in " + r[0], x.could(x.deed(0, 4, 5, r[0])), r[2]);
        }
        due("of the other block", x.could(x.deed(1, 4, 0, 0)), 2);
        due("of the other block", x.could(x.deed(1, 3, 0, 200)), 0);
        x.paper(0, 4, 49);
        due("by what is told now", x.could(1), 2);
    }

    // "TWICE: the first two DEEDS (by the first, then the other) of a BLOCK by unlike KINS."
    private static void soldTwice() {
        TwoTongues x = withBlocks(3);
        due("no deed", x.twice(0), NONE);
        x.deed(0, 3, 0, 50);
        due("one deed", x.twice(0), NONE);
        x.deed(0, 4, 0, 50);
        due("two in one year to one buyer", x.twice(0), 1);
        x.deed(0, 5, 0, 40);
        due("an earlier year told later", x.twice(0), 1);
        for (int i = 3; i < 18; i++) x.deed(1, 3, i % 6, 10 * i);
        due("15 by one kin", x.twice(1), NONE);
        x.deed(2, 9, 0, 200);
        x.deed(2, 0, 0, 0);
        due("the last two", x.twice(2), 1819);
        due("of another block", x.twice(1), NONE);
        TwoTongues y = withBlocks(2);
        y.deed(1, 1, 0, 0);
        for (int i = 1; i < 19; i++) y.deed(i == 9 ? 0 : 1, 1, 0, 0);
        y.deed(1, 2, 0, 0);
        due("the first and the last", y.twice(1), 19);
        due("one of the other", y.twice(0), NONE);
        TwoTongues z = withBlocks(1);
        z.deed(0, 1, 0, 0);
        z.deed(0, 1, 0, 0);
        z.deed(0, 2, 0, 0);
        z.deed(0, 1, 0, 0);
        due("by the first, then the other", z.twice(0), 2);
    }

    // "TAKEN (12 at most)"
    private static void twelveTakings() {
        TwoTongues x = withBlocks(2);
        x.use(1, 1023, 0);
        int[][] wrong = {{2, 0, 0}, {-1, 0, 0}, {0, -1, 0}, {0, 10, 0}, {0, 0, -1}, {0, 0, 201}};
        for (int[] w : wrong) due("take wrong", x.take(w[0], w[1], w[2]), BAD);
        for (int i = 0; i < 12; i++) {
            due("none yet", x.wronged(i), BAD);
            due("number " + i, x.take(1, i % 10, i % 2 * 200), i);
            due("there it is", x.wronged(i), 1023 - (1 << i % 10));
        }
        due("the 13th", x.take(0, 0, 0), FULL);
        for (int[] w : wrong) due("wrong, when full", x.take(w[0], w[1], w[2]), BAD);
        due("12 still", x.count(7), 12);
        due("the 13th is none", x.wronged(12), BAD);
        due("ahead of the first", x.wronged(-1), BAD);
    }

    // "WRONGED are KINS of PAPER, of USE that YEAR, but that one."
    private static void wronged() {
        int[][] rows = {{-1, 0, 0, 0}, {0, 0, 0, 0}, {0, 0, 9, 1}, {9, 0, 0, 512}, {9, 512, 0, 512}, {9, 512, 9, 0}, {9, 1, 0, 512}, {9, 1, 9, 1}, {9, 1, 5, 513},
            {-1, 1023, 9, 511}, {-1, 1023, 0, 1022}, {5, 1023, 5, 1023 - 32}, {5, 1023 - 32, 0, 1022}, {-1, 4, 2, 0}, {-1, 4, 3, 4}};
        for (int[] r : rows) {
            TwoTongues x = withBlocks(1);
            x.paper(0, r[0], 50);
            x.use(0, r[1], 50);
            x.take(0, r[2], 49);
            x.take(0, r[2], 50);
            x.take(0, r[2], 51);
            String of = "paper of " + r[0] + ", use " + r[1] + ", taken for " + r[2];
            due(of + " a year ahead", x.wronged(0), 0);
            due(of, x.wronged(1), r[3]);
            due(of + " a year later", x.wronged(2), r[3]);
            x.paper(0, -1, 51);
            x.use(0, 0, 51);
            due(of + " by what is told now", x.wronged(2), 0);
            due(of + " as ahead", x.wronged(1), r[3]);
        }
    }

    // "FOUNDERS of a KIN who were born by then and are not dead then"; promise 28: "among how many. NO: no such FOUNDER."
    private static void foundersOfShares() {
        for (int year : new int[] {0, 1, 100, 199, 200}) {
            TwoTongues x = withBlocks(1);
            for (int born = year - 1; born <= year + 1; born++) {
                int person = x.person(born, -1, -1);
                if (person >= 0) x.founder(person, 5);
            }
            due("born by " + year, x.shares(0, 5, year), year == 0 ? 1 : 2);
            due("of another kin", x.shares(0, 4, year), NO);
            TwoTongues y = withBlocks(1);
            for (int dead = year - 1; dead <= year + 1; dead++) {
                int person = y.person(0, -1, -1);
                y.founder(person, 5);
                y.die(person, dead);
            }
            due("not dead in " + year, y.shares(0, 5, year), year == 0 ? 2 : 1);
        }
        TwoTongues x = withBlocks(12);
        int[][] wrong = {{12, 0, 0}, {-1, 0, 0}, {0, 10, 0}, {0, -1, 0}, {0, 0, 201}, {0, 0, -1}};
        for (int[] w : wrong) due("wrong ahead of NO", x.shares(w[0], w[1], w[2]), BAD);
        due("nobody", x.shares(11, 9, 200), NO);
        x.person(200, -1, -1);
        due("no founder", x.shares(11, 9, 200), NO);
        x.founder(0, 9);
        due("a founder", x.shares(11, 9, 200), 1);
        due("not yet born", x.shares(11, 9, 199), NO);
        due("the last block's", x.share(11, 0, 200), WHOLE);
        due("no other block's", x.share(10, 0, 200), NO);
    }

    // "have alike parts of 1000000000000 (10 to the 12), cut; what is over LAPSES"
    private static void alikeParts() {
        TwoTongues x = withBlocks(1);
        x.person(0, -1, -1);
        for (int n = 1; n <= 30; n++) {
            x.founder(n - 1, 0);
            due("among " + n, x.shares(0, 0, 0), n);
            due("part of " + n, x.share(0, n - 1, 0), WHOLE / n);
            due("part of " + n, x.share(0, 0, 200), WHOLE / n);
            due("over of " + n, x.share(0, -1, 0), WHOLE % n);
            if (n < 30) due("the next one has none", x.share(0, x.person(0, -1, -1), 0), 0);
        }
        due("behind the last person", x.share(0, 30, 0), BAD);
        due("ahead of what lapsed", x.share(0, -2, 0), BAD);
    }

    // "SHARES told anew take the place of these"
    private static void sharesToldAnew() {
        TwoTongues x = withBlocks(2);
        x.person(0, -1, -1);
        x.person(0, -1, -1);
        x.founder(0, 0);
        x.founder(1, 1);
        x.shares(0, 0, 50);
        due("refused", x.shares(0, 2, 20), NO);
        due("refused", x.shares(0, 10, 20), BAD);
        due("refused", x.shares(0, 1, 201), BAD);
        due("those told stand", x.share(0, 0, 50), WHOLE);
        due("those told stand", x.share(0, 0, 49), NO);
        due("told anew, later", x.shares(0, 1, 60), 1);
        due("in place of these", x.share(0, 0, 60), 0);
        due("in place of these", x.share(0, 1, 60), WHOLE);
        due("a year ahead of these", x.share(0, 0, 59), NO);
        due("told anew, ahead", x.shares(0, 0, 0), 1);
        due("from the first year on", x.share(0, 0, 0), WHOLE);
        due("no longer the other's", x.share(0, 1, 60), 0);
        due("the other block has none", x.share(1, 0, 200), NO);
        due("the other block has none", x.small(1, 1), NO);
    }

    // "(All by what is told when it is asked ..)"
    private static void sharesAsToldWhenAsked() {
        TwoTongues x = withBlocks(1);
        for (int i = 0; i < 3; i++) x.person(0, -1, -1);
        x.founder(0, 0);
        x.shares(0, 0, 50);
        due("alone", x.share(0, 0, 50), WHOLE);
        x.founder(1, 0);
        due("a founder more", x.share(0, 0, 50), WHOLE / 2);
        x.die(0, 60);
        due("dead later", x.share(0, 0, 59), WHOLE / 2);
        due("dead later", x.share(0, -1, 60), WHOLE / 2);
        due("a child told later", x.person(60, 0, 2), 3);
        due("a child told later", x.share(0, 3, 60), WHOLE / 2);
        x.die(1, 50);
        due("dead then", x.share(0, 0, 50), WHOLE);
        due("dead then", x.share(0, 3, 60), WHOLE);
    }

    // Promise 29: "NO -2: no SHARES, a YEAR ahead of these."
    private static void yearsOfAShare() {
        for (int year : new int[] {0, 1, 100, 200}) {
            TwoTongues x = withBlocks(1);
            x.person(0, -1, -1);
            x.founder(0, 0);
            due("no shares", x.share(0, 0, year), NO);
            due("no shares lapsed", x.share(0, -1, year), NO);
            x.shares(0, 0, year);
            due("a year ahead", x.share(0, 0, year - 1), year == 0 ? BAD : NO);
            due("a year ahead", x.share(0, -1, year - 1), year == 0 ? BAD : NO);
            due("that year", x.share(0, 0, year), WHOLE);
            due("nothing lapsed", x.share(0, -1, year), 0);
            due("the next year", x.share(0, 0, year + 1), year == 200 ? BAD : WHOLE);
            due("wrong ahead of NO", x.share(0, 1, year - 1), BAD);
            due("wrong ahead of NO", x.share(1, 0, year - 1), BAD);
        }
    }

    /** Founder 0 of kin 0, who is dead from a YEAR on; the other parent 1 has nothing. SHARES from 10 on. */
    private static TwoTongues family(int dead) {
        TwoTongues x = withBlocks(1);
        x.person(0, -1, -1);
        x.person(0, -1, -1);
        x.founder(0, 0);
        x.shares(0, 0, 10);
        x.die(0, dead);
        return x;
    }

    // "YEAR by YEAR (from that one on), of those dead from that YEAR on"
    private static void deadInAYear() {
        for (int dead : new int[] {11, 12, 100, 199, 200}) {
            TwoTongues x = family(dead);
            int child = x.person(0, 0, 1);
            due("its own till then", x.share(0, 0, dead - 1), WHOLE);
            due("none yet", x.share(0, child, dead - 1), 0);
            due("none from then on", x.share(0, 0, dead), 0);
            due("the child's from then on", x.share(0, child, dead), WHOLE);
            due("later too", x.share(0, child, 200), WHOLE);
            due("nothing lapsed", x.share(0, -1, 200), 0);
            due("the other parent has none", x.share(0, 1, 200), 0);
        }
        TwoTongues x = family(10);
        int child = x.person(0, 0, 1);
        due("dead in the year of the shares: no part", x.share(0, 0, 10), 0);
        due("dead in the year of the shares: none for the child", x.share(0, child, 200), 0);
        due("no founder left: all lapsed", x.share(0, -1, 10), WHOLE);
    }

    // "to its children (who have it as a parent, born by that YEAR)"
    private static void childrenBornByThen() {
        TwoTongues x = family(50);
        x.person(49, 0, 1);
        x.person(50, 1, 0);
        x.person(51, 0, 1);
        x.person(40, -1, -1);
        x.person(40, 1, 5);
        long[] due = {0, 0, WHOLE / 2, WHOLE / 2, 0, 0, 0};
        for (int i = 0; i < due.length; i++) {
            due("part of " + i, x.share(0, i, 50), due[i]);
            due("part of " + i + " later", x.share(0, i, 200), due[i]);
        }
        TwoTongues y = family(50);
        y.person(51, 0, 1);
        due("a child born too late alone: nobody", y.share(0, -1, 200), WHOLE);
        due("a child born too late", y.share(0, 2, 200), 0);
        TwoTongues z = family(200);
        z.person(200, 0, 1);
        due("born in the last year", z.share(0, 2, 200), WHOLE);
    }

    // "of a child that is dead by that YEAR on to its children in the same way"
    private static void deadChildren() {
        for (int dead = 49; dead <= 51; dead++) {
            TwoTongues x = family(50);
            x.person(0, 0, 1);
            x.person(0, 0, 1);
            x.die(2, dead);
            x.person(dead == 51 ? 52 : 50, 2, 1);
            due("dead from " + dead + ", the other child", x.share(0, 3, 50), WHOLE / 2);
            due("dead from " + dead + ", itself", x.share(0, 2, 50), dead == 51 ? WHOLE / 2 : 0);
            due("dead from " + dead + ", its child", x.share(0, 4, 50), dead == 51 ? 0 : WHOLE / 2);
            due("dead from " + dead + ", nothing lapsed", x.share(0, -1, 50), 0);
            due("dead from " + dead + ", then", x.share(0, -1, 51), dead == 51 ? WHOLE / 2 : 0);
        }
        TwoTongues x = family(50);
        x.person(0, 0, 1);
        x.die(2, 20);
        for (int born = 49; born <= 51; born++) x.person(born, 2, 1);
        due("a grandchild born ahead", x.share(0, 3, 50), WHOLE / 2);
        due("a grandchild born that year", x.share(0, 4, 50), WHOLE / 2);
        due("a grandchild born later", x.share(0, 5, 200), 0);
        TwoTongues y = family(200);
        for (int i = 2; i < 30; i++) y.person(0, i == 2 ? 0 : i - 1, 1);
        for (int i = 2; i < 29; i++) y.die(i, i);
        due("through 27 dead", y.share(0, 29, 200), WHOLE);
        due("ahead of that", y.share(0, 29, 199), 0);
    }

    // "by numbers": the parts of one pass on ahead of the next one's
    private static void byNumbers() {
        TwoTongues x = withBlocks(1);
        for (int i = 0; i < 3; i++) {
            x.person(0, -1, -1);
            x.founder(i, 0);
        }
        x.person(0, 0, 1);
        x.person(0, 0, 1);
        x.shares(0, 0, 0);
        x.die(0, 50);
        x.die(1, 50);
        due("each half is cut by itself", x.share(0, 3, 50), 2 * (WHOLE / 3 / 2));
        due("two are over, and one", x.share(0, -1, 50), 3);
        TwoTongues y = family(50);
        y.person(0, 0, 1);
        y.person(0, 2, 1);
        y.person(0, 2, 1);
        y.founder(2, 0);
        y.die(2, 50);
        due("its own and what would have come are cut apart", y.share(0, 3, 50), WHOLE / 2);
        due("all passed on in that year", y.share(0, 2, 50) + y.share(0, -1, 50), 0);
    }

    // "its parts go alike, cut": what is over lapses
    private static void partsCut() {
        for (int children = 1; children <= 28; children++) {
            TwoTongues x = family(50);
            for (int i = 0; i < children; i++) x.person(i, 0, 1);
            due("of " + children, x.share(0, 1 + children, 50), WHOLE / children);
            due("the first of " + children, x.share(0, 2, 50), WHOLE / children);
            due("over of " + children, x.share(0, -1, 50), WHOLE % children);
            due("over ahead of that", x.share(0, -1, 49), 0);
        }
        TwoTongues x = family(50);
        for (int i = 0; i < 3; i++) x.person(0, 0, 1);
        for (int i = 0; i < 7; i++) x.person(0, 2, 1);
        x.die(2, 60);
        due("a seventh of a third, cut twice", x.share(0, 5, 60), WHOLE / 3 / 7);
        due("over of both", x.share(0, -1, 60), WHOLE % 3 + WHOLE / 3 % 7);
        due("over of the first", x.share(0, -1, 59), WHOLE % 3);
    }

    // "of one that has none to nobody; what nobody gets LAPSES"
    private static void nobodyGetsIt() {
        TwoTongues x = family(50);
        due("not yet", x.share(0, -1, 49), 0);
        due("no child", x.share(0, -1, 50), WHOLE);
        due("it stays so", x.share(0, -1, 200), WHOLE);
        due("none is left", x.share(0, 0, 50), 0);
        TwoTongues y = family(50);
        y.person(0, 0, 1);
        y.person(0, 0, 1);
        y.die(2, 30);
        due("a dead child without children: its half", y.share(0, -1, 50), WHOLE / 2);
        due("the other has no more", y.share(0, 3, 50), WHOLE / 2);
        y.die(3, 51);
        due("all", y.share(0, -1, 51), WHOLE);
        due("the year ahead", y.share(0, -1, 50), WHOLE / 2);
    }

    // "some one who is not dead has less than 10 to the 12 by N, but some"; promise 30: "by N (1 to 1000000)"
    private static void smallByN() {
        for (int heads : new int[] {1, 2, 4, 5, 10, 20, 25}) {
            TwoTongues x = withBlocks(1);
            for (int i = 0; i < heads; i++) {
                x.person(0, -1, -1);
                x.founder(i, 0);
            }
            due("no shares", x.small(0, heads), NO);
            x.shares(0, 0, 7);
            due("just as much is not less: " + heads, x.small(0, heads), NONE);
            due("one more piece: " + heads, x.small(0, heads + 1), NONE);
            due("one piece less: " + heads, heads == 1 ? 7 : x.small(0, heads - 1), 7);
            due("a million pieces", x.small(0, 1000000), NONE);
            for (int n : new int[] {Integer.MIN_VALUE, -1, 0, 1000001, Integer.MAX_VALUE}) due("pieces " + n, x.small(0, n), BAD);
            due("no such block", x.small(1, heads), BAD);
            due("no such block", x.small(-1, heads), BAD);
            x.person(0, -1, -1);
            due("one who has none is not small", x.small(0, heads), NONE);
        }
        TwoTongues x = family(50);
        due("all lapsed: nobody has less", x.small(0, 1), NONE);
        TwoTongues wrong = withBlocks(1);
        due("wrong ahead of NO", wrong.small(0, 0), BAD);
        due("wrong ahead of NO", wrong.small(0, 1000001), BAD);
    }

    // "SMALL: the first YEAR from that one on"
    private static void smallYears() {
        for (int dead : new int[] {11, 50, 199, 200}) {
            TwoTongues x = family(dead);
            x.person(0, 0, 1);
            x.person(0, 0, 1);
            due("from the death on", x.small(0, 1), dead);
            due("a half is not less", x.small(0, 2), NONE);
            x.person(0, 0, 1);
            due("a third is less", x.small(0, 2), dead);
            due("a third, cut", x.small(0, 4), NONE);
            due("told anew, behind it", x.shares(0, 0, 10), 1);
            x.founder(1, 0);
            due("a half in the first year", x.small(0, 1), 10);
            due("a sixth from then on", x.small(0, 2), dead);
            due("told in the first year of all", x.shares(0, 0, 0), 2);
            due("in the first year of all", x.small(0, 1), 0);
        }
        TwoTongues x = family(50);
        x.person(0, 0, 1);
        x.person(0, 0, 1);
        x.die(2, 50);
        x.die(3, 50);
        due("who is dead has nothing", x.small(0, 1), NONE);
        TwoTongues y = family(50);
        for (int i = 0; i < 3; i++) y.person(0, 0, 1);
        y.die(2, 51);
        y.die(3, 52);
        y.die(4, 53);
        due("some years alone", y.small(0, 2), 50);
        y.shares(0, 0, 49);
        due("told later", y.small(0, 2), 50);
        TwoTongues z = withBlocks(1);
        z.person(200, -1, -1);
        z.person(200, -1, -1);
        z.founder(0, 0);
        z.founder(1, 0);
        z.shares(0, 0, 200);
        due("in the last year", z.small(0, 1), 200);
        due("not less in the last year", z.small(0, 2), NONE);
    }

    /**
     * Ten in a row, each the child of the one ahead, who die in turn; beside the next in the row each has
     * children who were dead at birth. They part the whole by 4, 4, 4 and six times 5: a millionth is left,
     * and that is not less; with one child more it is.
     */
    private static void smallByAMillion() {
        for (int more = 0; more < 2; more++) {
            TwoTongues x = row(more);
            for (int i = 0; i < 9; i++) due("dead in turn", x.die(rowPlace(i), 20 + i), 0);
            due("shares", x.shares(0, 0, 19), 1);
            due("the last but one", x.share(0, rowPlace(8), 27), more == 0 ? 5000000 : 4000000);
            due("the last", x.share(0, rowPlace(9), 28), more == 0 ? 1000000 : 800000);
            due("by a million", x.small(0, 1000000), more == 0 ? NONE : 28);
            due("by a million but one", x.small(0, 999999), 28);
            due("by 200000", x.small(0, 200000), more == 0 ? 28 : 27);
            due("by 199999", x.small(0, 199999), 27);
        }
    }

    /** The row stands at the numbers 0, 2, 3, ..; 1 is the other parent of those in it. */
    private static int rowPlace(int i) {
        return i == 0 ? 0 : i + 1;
    }

    private static TwoTongues row(int more) {
        TwoTongues x = withBlocks(1);
        x.person(0, -1, -1);
        x.person(0, -1, -1);
        for (int i = 1; i < 10; i++) x.person(0, rowPlace(i - 1), 1);
        x.founder(0, 0);
        int[] left = {3 + more, 3, 3, 4, 4, 4, 4, 4, 4};
        int a = 0;
        int b = 8;
        while (a < b) {
            while (a < b && left[a] > 0 && left[b] > 0) {
                int child = x.person(0, rowPlace(a), rowPlace(b));
                x.die(child, 0);
                left[a]--;
                left[b]--;
            }
            if (left[a] == 0) a++;
            if (left[b] == 0) b--;
        }
        for (; a < 9 && left[a] > 0; left[a]--) x.die(x.person(0, rowPlace(a), 1), 0);
        return x;
    }
}
