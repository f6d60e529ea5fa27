/** Terms 3 and promises 31 to 41 at their edges, sentence by sentence: at each edge and on each side of it. */
public final class ClaimEdgesTest {
    private static final Check CHECK = new Check();
    private static final int BAD = TwoTongues.BAD, FULL = TwoTongues.FULL, NONE = TwoTongues.NONE;

    public static void main(String[] args) {
        nineClaims();
        numbersOfAClaim();
        foundedByFacts();
        fallsWithAFact();
        lastYearOfAHearing();
        hearingsOneBehindTheOther();
        bestOfSeveral();
        hearingsPastTheYears();
        placesOfHearings();
        leftByYears();
        leftByTakings();
        cousins();
        settledByK();
        settledLeastBits();
        eightSettlements();
        toppedCut();
        paidInTheFirstYear();
        coinStays();
        planOfSeveral();
        planOfTheMost();
        placesOfAPlan();
        counts();
        CHECK.end();
    }

    private static void due(String call, long got, long want) {
        CHECK.due(call, got, want);
    }

    private static TwoTongues withElders(int persons) {
        TwoTongues x = new TwoTongues();
        for (int i = 0; i < persons; i++) x.person(0, -1, -1);
        return x;
    }

    // "CLAIMS 0 to 8 as they come"; promise 31: "FULL: 9."
    private static void nineClaims() {
        TwoTongues x = withElders(1);
        for (int i = 0; i < 9; i++) {
            due("none yet", x.left(i, 0, false), BAD);
            due("number " + i, x.claim(0, 1, 0, 1, 0, 1), i);
            due("there it is", x.left(i, 0, false), 0);
            due("how many", x.count(8), i + 1);
            due("founded", x.founded(0), (2 << i) - 1);
        }
        due("the 10th", x.claim(0, 1, 0, 1, 0, 1), FULL);
        due("wrong, when full", x.claim(0, 0, 0, 1, 0, 1), BAD);
        due("wrong elder, when full", x.claim(0, 1, 1, 1, 0, 1), BAD);
        due("9 still", x.count(8), 9);
        due("the 10th is none", x.left(9, 0, false), BAD);
        due("the 10th is none", x.hear(0, 9), NONE);
        due("the 10th is none", x.founded(255), 511);
    }

    // "a KIN, a WEIGHT (1 to 100), an elder (a PERSON), TIME (1 to 5 YEARS), needed FACTS (a set), ASKED (1 to 1000 coins)"
    private static void numbersOfAClaim() {
        TwoTongues x = withElders(3);
        int[][] bounds = {{0, 9}, {1, 100}, {0, 2}, {1, 5}, {0, 255}, {1, 1000}};
        for (int at = 0; at < 6; at++) {
            for (int number : new int[] {Integer.MIN_VALUE, bounds[at][0] - 1, bounds[at][1] + 1, Integer.MAX_VALUE}) {
                int[] n = {5, 5, 1, 2, 5, 5};
                n[at] = number;
                due("claim with " + number + " at " + at, x.claim(n[0], n[1], n[2], n[3], n[4], n[5]), BAD);
            }
        }
        due("none came", x.count(8), 0);
        due("the least of all", x.claim(0, 1, 0, 1, 0, 1), 0);
        due("the greatest of all", x.claim(9, 100, 2, 5, 255, 1000), 1);
        due("its weights", x.hear(0, -1), 101);
        due("needs nothing", x.founded(0), 1);
        due("needs all", x.founded(255), 3);
        due("needs all", x.founded(254), 1);
        due("asked", x.plan(1, 255, -1), 100 * 1000);
    }

    // "FOUNDED are those whose needed FACTS are all so."
    private static void foundedByFacts() {
        for (int needed : new int[] {0, 1, 2, 64, 128, 129, 254, 255}) {
            TwoTongues x = withElders(1);
            x.claim(0, 1, 0, 1, needed, 1);
            due("just so " + needed, x.founded(needed), 1);
            due("all so " + needed, x.founded(255), 1);
            for (int fact = 0; fact < 8; fact++) {
                boolean needs = (needed >> fact & 1) == 1;
                due("without " + fact + " of " + needed, x.founded(255 - (1 << fact)), needs ? 0 : 1);
                due("with one more, " + fact + " of " + needed, x.founded(needed | 1 << fact), 1);
                due("falls with " + fact + " of " + needed, x.falls(255, fact), needs ? 1 : 0);
                due("falls with " + fact + " that is not so", x.falls(255 - (1 << fact), fact), 0);
            }
            due("none so", x.founded(0), needed == 0 ? 1 : 0);
        }
    }

    // "FALLS with a FACT: those FOUNDED that need it."
    private static void fallsWithAFact() {
        TwoTongues x = withElders(1);
        for (int i = 0; i < 8; i++) x.claim(0, 1, 0, 1, 1 << i, 1);
        x.claim(0, 1, 0, 1, 129, 1);
        for (int fact = 0; fact < 8; fact++) due("falls with " + fact, x.falls(255, fact), 1 << fact | (fact == 0 || fact == 7 ? 256 : 0));
        due("one that is not founded does not fall", x.falls(1, 0), 1);
        due("one that is not founded does not fall", x.falls(128, 7), 128);
        due("both", x.falls(129, 7), 128 | 256);
        due("none is so", x.falls(0, 0), 0);
        for (int fact : new int[] {-1, 8}) due("no fact", x.falls(255, fact), BAD);
        for (int facts : new int[] {-1, 256}) due("no facts", x.falls(facts, 0), BAD);
    }

    // "one counts, if its elder is not dead in the last of its YEARS"
    private static void lastYearOfAHearing() {
        for (int time = 1; time <= 5; time++) {
            for (int start : new int[] {0, 1, 100, 195}) {
                int last = start + time - 1;
                for (int dead = last - 1; dead <= last + 1; dead++) {
                    if (dead < 0) continue;
                    TwoTongues x = withElders(1);
                    x.die(0, dead);
                    x.claim(0, 7, 0, time, 0, 1);
                    due("from " + start + ", " + time + " long, elder dead from " + dead, x.hear(start, -1), dead > last ? 7 : 0);
                    due("it is heard all the same", x.hear(start, 0), 0);
                }
            }
        }
        TwoTongues x = new TwoTongues();
        x.person(200, -1, -1);
        x.claim(0, 7, 0, 1, 0, 1);
        due("an elder not yet born is not dead", x.hear(0, -1), 7);
        due("a claim that no fact founds is heard", x.claim(0, 5, 0, 1, 255, 1), 1);
        due("a claim that no fact founds is heard", x.hear(0, -1), 12);
    }

    // "all CLAIMS one behind the other, each TIME YEARS long"
    private static void hearingsOneBehindTheOther() {
        for (int dead = 104; dead <= 109; dead++) {
            TwoTongues x = withElders(2);
            x.die(0, dead);
            x.die(1, dead);
            x.claim(0, 1, 0, 3, 0, 1);
            x.claim(0, 2, 1, 5, 0, 1);
            due("eight years, dead from " + dead, x.hear(100, -1), dead < 105 ? 1 : dead < 108 ? 2 : 3);
            due("first, dead from " + dead, x.hear(100, 0), dead < 105 || dead >= 108 ? 0 : 1);
            due("second, dead from " + dead, x.hear(100, 1), dead < 105 || dead >= 108 ? 1 : 0);
        }
    }

    private static void dueOrder(String what, TwoTongues x, int year, int... order) {
        for (int i = 0; i < order.length; i++) due(what + " at " + i, x.hear(year, i), order[i]);
        due(what + " behind", x.hear(year, order.length), NONE);
    }

    // "BEST: that order by which WEIGHTS that count are most; of several that with the lower CLAIM first, then second, .."
    private static void bestOfSeveral() {
        TwoTongues x = withElders(4);
        for (int i = 0; i < 3; i++) x.claim(0, 10, i, 1, 0, 1);
        dueOrder("all count", x, 0, 0, 1, 2);
        x.die(0, 0);
        x.die(1, 1);
        x.die(2, 1);
        due("one of two alike counts", x.hear(0, -1), 10);
        dueOrder("the lower of two alike", x, 0, 1, 0, 2);
        due("none counts", x.hear(1, -1), 0);
        dueOrder("none counts", x, 1, 0, 1, 2);
        x.claim(0, 11, 3, 1, 0, 1);
        dueOrder("the heavier that can wait comes last", x, 0, 1, 0, 2, 3);
        TwoTongues y = withElders(2);
        y.die(0, 101);
        y.die(1, 101);
        y.claim(0, 10, 0, 1, 0, 1);
        y.claim(0, 11, 1, 1, 0, 1);
        due("the heavier", y.hear(100, -1), 11);
        dueOrder("the heavier first", y, 100, 1, 0);
        TwoTongues z = withElders(3);
        z.die(2, 103);
        for (int i = 0; i < 3; i++) z.claim(0, 1, i, i == 2 ? 2 : 1, 0, 1);
        due("all three", z.hear(100, -1), 3);
        dueOrder("the lower first, as far as it costs nothing", z, 100, 0, 2, 1);
    }

    private static void hearingsPastTheYears() {
        TwoTongues x = withElders(2);
        x.die(0, 200);
        for (int i = 0; i < 9; i++) x.claim(0, 1 + i, i == 8 ? 0 : 1, 5, 0, 1);
        due("the dead one first", x.hear(195, -1), 45);
        dueOrder("the dead one first", x, 195, 8, 0, 1, 2, 3, 4, 5, 6, 7);
        due("too late for it", x.hear(196, -1), 36);
        dueOrder("too late for it", x, 196, 0, 1, 2, 3, 4, 5, 6, 7, 8);
        due("from the last year on", x.hear(200, -1), 36);
        due("behind the last year", x.hear(201, -1), BAD);
        due("ahead of the first year", x.hear(-1, -1), BAD);
        TwoTongues y = withElders(2);
        y.die(0, 200);
        y.claim(0, 1, 1, 1, 0, 1);
        y.claim(0, 2, 0, 1, 0, 1);
        dueOrder("both count in 198", y, 198, 0, 1);
        dueOrder("both count in 199 if the other is first", y, 199, 1, 0);
        due("both count in 199", y.hear(199, -1), 3);
        due("the one alone in 200", y.hear(200, -1), 1);
    }

    // Promise 34: "WEIGHTS that count (i = -1), the i-th CLAIM by BEST. NONE; BAD."
    private static void placesOfHearings() {
        TwoTongues x = withElders(1);
        due("no claim", x.hear(0, -1), 0);
        due("no claim", x.hear(0, 0), NONE);
        for (int claims = 1; claims <= 9; claims++) {
            x.claim(0, 100, 0, 5, 0, 1);
            due("weights of " + claims, x.hear(0, -1), 100 * claims);
            due("the last of " + claims, x.hear(0, claims - 1), claims - 1);
            due("behind the last of " + claims, x.hear(0, claims), NONE);
        }
        due("far behind", x.hear(0, Integer.MAX_VALUE), NONE);
        due("ahead of how many", x.hear(0, -2), BAD);
        due("far ahead", x.hear(0, Integer.MIN_VALUE), BAD);
    }

    // "LEFT of a CLAIM in a YEAR: WORTH of BLOCKS .. that have no PAPER in that YEAR"
    private static void leftByYears() {
        TwoTongues x = withElders(1);
        x.claim(3, 1, 0, 1, 255, 1);
        x.block(700);
        due("nothing taken", x.left(0, 200, false), 0);
        x.use(0, 8, 0);
        x.take(0, 9, 50);
        due("never a paper", x.left(0, 0, false), 700);
        due("never a paper", x.left(0, 200, false), 700);
        x.paper(0, 3, 100);
        x.paper(0, -1, 110);
        x.paper(0, 0, 200);
        int[][] rows = {{99, 700}, {100, 0}, {101, 0}, {109, 0}, {110, 700}, {111, 700}, {199, 700}, {200, 0}};
        for (int[] r : rows) {
            due("left in " + r[0], x.left(0, r[0], false), r[1]);
            due("given back in " + r[0], x.left(0, r[0], true), r[1]);
        }
        for (int year : new int[] {-1, 201}) due("no year", x.left(0, year, false), BAD);
        for (int claim : new int[] {-1, 1}) due("no claim", x.left(claim, 0, true), BAD);
    }

    // "by the TAKING of which its KIN was WRONGED (each BLOCK once) .. GIVEN BACK: of these those where by no TAKING of the BLOCK another KIN was WRONGED"
    private static void leftByTakings() {
        TwoTongues x = withElders(1);
        x.claim(3, 1, 0, 1, 0, 1);
        x.claim(4, 1, 0, 1, 0, 1);
        for (int i = 0; i < 12; i++) x.block(1000000);
        for (int i = 0; i < 12; i++) x.use(i, 8, 0);
        for (int i = 0; i < 11; i++) {
            x.take(i, 9, i);
            due("left of " + (i + 1), x.left(0, 0, false), 1000000 * (i + 1));
        }
        x.take(0, 8, 200);
        due("a block taken twice counts once", x.left(0, 0, false), 11000000);
        due("a block taken twice counts once", x.left(0, 0, true), 11000000);
        due("another kin has nothing", x.left(1, 0, false), 0);
        x.use(0, 24, 199);
        due("left, the other wronged by one taking", x.left(0, 0, false), 11000000);
        due("another was wronged by one taking", x.left(0, 0, true), 10000000);
        due("left of the other", x.left(1, 0, false), 1000000);
        due("nothing to give back to the other", x.left(1, 0, true), 0);
        x.use(0, 16, 200);
        due("each by another taking", x.left(0, 0, false), 11000000);
        due("each by another taking", x.left(0, 0, true), 10000000);
        x.use(0, 16, 0);
        due("the other alone, by what is told now", x.left(0, 0, false), 10000000);
        due("the other alone", x.left(1, 0, true), 1000000);
        TwoTongues y = withElders(1);
        y.claim(3, 1, 0, 1, 0, 1);
        y.block(5);
        y.use(0, 24, 0);
        y.take(0, 4, 10);
        due("for an act of the other", y.left(0, 0, true), 5);
        y.take(0, 3, 10);
        due("then for its own", y.left(0, 0, false), 5);
        due("then for its own", y.left(0, 0, true), 0);
    }

    // "COUSINS of two unlike KINS: how many PERSONS are OF both."
    private static void cousins() {
        TwoTongues x = withElders(30);
        due("nobody", x.cousins(0, 9), 0);
        for (int i = 0; i < 30; i++) {
            x.founder(i, 0);
            due("one of one alone", x.cousins(0, 9), i);
            x.founder(i, 9);
            due("of both", x.cousins(0, 9), i + 1);
            due("of both", x.cousins(9, 0), i + 1);
        }
        for (int kin = 0; kin < 10; kin++) due("of one kin", x.cousins(kin, kin), BAD);
        for (int kin : new int[] {-1, 10}) {
            due("no kin", x.cousins(kin, 0), BAD);
            due("no kin", x.cousins(0, kin), BAD);
            due("no kin", x.cousins(kin, kin), BAD);
        }
        due("kins next to them", x.cousins(1, 8), 0);
    }

    // "that set of k KINS (1 to 9), it among them, by which COUSINS of all pairs of one in it and one that is not are fewest together"
    private static void settledByK() {
        TwoTongues x = withElders(30);
        for (int kin = 0; kin < 10; kin++) x.founder(0, kin);
        for (int k = 1; k <= 9; k++) {
            due("cut by " + k, x.settled(0, k, 1), k * (10 - k));
            due("set by " + k, x.settled(0, k, 0), (1 << k) - 1);
            due("set by " + k + " of the last", x.settled(9, k, 0), 512 + (1 << k - 1) - 1);
        }
        for (int k : new int[] {Integer.MIN_VALUE, -1, 0, 10, Integer.MAX_VALUE}) due("by " + k, x.settled(0, k, 0), BAD);
        for (int kin : new int[] {-1, 10}) due("no kin", x.settled(kin, 1, 0), BAD);
        for (int what : new int[] {-1, 2}) due("what is none", x.settled(0, 1, what), BAD);
        for (int i = 1; i < 4; i++) {
            x.founder(i, 0);
            x.founder(i, 9);
        }
        due("0 with 9", x.settled(0, 2, 0), 513);
        due("0 with 9 cuts", x.settled(0, 2, 1), 16);
        due("0 alone cuts", x.settled(0, 1, 1), 9 + 3);
        due("5 with the first but 0", x.settled(5, 2, 0), 34);
        due("5 with 0 and 9, or two others", x.settled(5, 3, 0), 32 + 2 + 4);
        due("all but one: not 0, not 9", x.settled(5, 9, 0), 1023 - 256);
        due("all but one, for 8", x.settled(8, 9, 0), 1023 - 128);
    }

    // "of several the least bits"
    private static void settledLeastBits() {
        TwoTongues none = new TwoTongues();
        for (int kin = 0; kin < 10; kin++) {
            for (int k = 1; k <= 9; k++) {
                int least = (1 << k) - 1;
                if (kin >= k) least = (1 << k - 1) - 1 | 1 << kin;
                due("of " + kin + " by " + k, none.settled(kin, k, 0), least);
                due("of " + kin + " by " + k + " cuts", none.settled(kin, k, 1), 0);
            }
        }
    }

    // "SETTLEMENTS, 8 at most: a sum (1 to 100000), a RATIO (0 to 50 hundredths)."
    private static void eightSettlements() {
        TwoTongues x = new TwoTongues();
        int[][] wrong = {{0, 0}, {-1, 0}, {100001, 0}, {1, -1}, {1, 51}, {Integer.MIN_VALUE, 0}, {Integer.MAX_VALUE, 0}, {1, Integer.MIN_VALUE}, {1, Integer.MAX_VALUE}};
        for (int[] w : wrong) due("settlement wrong", x.settlement(w[0], w[1]), BAD);
        due("none", x.topped(-1), 0);
        due("none yet", x.topped(0), BAD);
        due("the least", x.settlement(1, 0), 0);
        due("the greatest", x.settlement(100000, 50), 1);
        for (int i = 2; i < 8; i++) {
            due("none yet", x.topped(i), BAD);
            due("number " + i, x.settlement(2, 1), i);
            due("there it is", x.topped(i), 0);
        }
        due("the 9th", x.settlement(100000, 50), FULL);
        for (int[] w : wrong) due("wrong, when full", x.settlement(w[0], w[1]), BAD);
        due("8 still", x.count(9), 8);
        due("the 9th is none", x.topped(8), BAD);
        due("ahead of all", x.topped(-2), BAD);
        due("the 9th costs nothing", x.topped(-1), 1 + 100000 + 6 * 2 + 6);
    }

    // "TOPPED UP: each gets of each later sum RATIO hundredths, cut."
    private static void toppedCut() {
        int[][] rows = {{1, 50, 0}, {2, 50, 1}, {3, 50, 1}, {99, 1, 0}, {100, 1, 1}, {101, 1, 1}, {199, 1, 1}, {200, 1, 2}, {100000, 0, 0}, {100000, 50, 50000}, {33, 3, 0},
            {34, 3, 1}, {99999, 49, 48999}};
        for (int[] r : rows) {
            TwoTongues x = new TwoTongues();
            x.settlement(77, r[1]);
            due("nothing is later", x.topped(0), 0);
            x.settlement(r[0], 50);
            due(r[1] + " hundredths of " + r[0], x.topped(0), r[2]);
            due("the last", x.topped(1), 0);
            due("all", x.topped(-1), 77 + r[0] + r[2]);
            x.settlement(r[0], 0);
            due("of each by itself", x.topped(0), 2 * r[2]);
            due("not of one ahead", x.topped(1), r[0] / 2);
            due("all of three", x.topped(-1), 77 + 2 * r[0] + 2 * r[2] + r[0] / 2);
        }
        TwoTongues most = new TwoTongues();
        for (int i = 0; i < 8; i++) most.settlement(100000, 50);
        for (int i = 0; i < 8; i++) due("the most of " + i, most.topped(i), 50000 * (7 - i));
        due("the most of all", most.topped(-1), 800000 + 50000 * 28);
    }

    // "COIN comes at YEAR 0, 1, 2, .. each is paid in the first YEAR in which there is enough"; "COIN (1 to 1000 each YEAR)"
    private static void paidInTheFirstYear() {
        int[][] rows = {{100, 1, 0}, {100, 99, 0}, {100, 100, 0}, {100, 101, 1}, {100, 200, 1}, {100, 201, 2}, {1, 1, 0}, {1, 2, 1}, {1, 1000, 999}, {999, 1000, 1},
            {1000, 1000, 0}, {1000, 1, 0}, {500, 1000, 1}, {499, 1000, 2}};
        for (int[] r : rows) {
            TwoTongues x = withElders(1);
            x.claim(0, 1, 0, 1, 0, r[1]);
            due("asked " + r[1] + " by " + r[0], x.plan(r[0], 0, -1), r[2]);
            TwoTongues y = withElders(1);
            y.claim(0, 100, 0, 1, 0, r[1]);
            due("asked " + r[1] + " by " + r[0] + ", weight 100", y.plan(r[0], 0, -1), 100 * r[2]);
        }
        TwoTongues x = withElders(1);
        x.claim(0, 1, 0, 1, 0, 1);
        for (int coin : new int[] {Integer.MIN_VALUE, -1, 0, 1001, Integer.MAX_VALUE}) due("coin " + coin, x.plan(coin, 0, -1), BAD);
        for (int facts : new int[] {-1, 256}) due("facts " + facts, x.plan(1, facts, -1), BAD);
    }

    // "what is not spent stays"
    private static void coinStays() {
        TwoTongues x = withElders(1);
        x.claim(0, 1, 0, 1, 0, 60);
        x.claim(0, 1, 0, 1, 0, 60);
        due("both at once", x.plan(120, 0, -1), 0);
        due("one short", x.plan(119, 0, -1), 1);
        due("what is left of the first year helps in the next", x.plan(60, 0, -1), 1);
        due("one short for the first", x.plan(59, 0, -1), 1 + 2);
        due("two years for both", x.plan(40, 0, -1), 1 + 2);
        due("one short for both", x.plan(39, 0, -1), 1 + 3);
    }

    // "That order by which WAIT is least; of several that with the lower CLAIM first, then second, .."
    private static void planOfSeveral() {
        TwoTongues x = withElders(1);
        x.claim(0, 1, 0, 1, 1, 100);
        x.claim(0, 1, 0, 1, 2, 100);
        x.claim(0, 2, 0, 1, 4, 100);
        duePlan(x, 100, 3, 1, 0, 1);
        duePlan(x, 100, 5, 1, 2, 0);
        duePlan(x, 100, 7, 1 + 2, 2, 0, 1);
        duePlan(x, 300, 7, 0, 0, 1, 2);
        duePlan(x, 299, 7, 1, 0, 2, 1);
        duePlan(x, 200, 7, 1, 0, 2, 1);
        duePlan(x, 199, 7, 1 + 1, 2, 0, 1);
        duePlan(x, 100, 6, 1, 2, 1);
        duePlan(x, 100, 4, 0, 2);
        duePlan(x, 100, 248, 0);
    }

    private static void duePlan(TwoTongues x, int coin, int facts, int wait, int... order) {
        due("plan by " + coin + " with " + facts, x.plan(coin, facts, -1), wait);
        for (int i = 0; i < order.length; i++) due("plan by " + coin + " with " + facts + " at " + i, x.plan(coin, facts, i), order[i]);
        due("plan by " + coin + " with " + facts + " behind", x.plan(coin, facts, order.length), NONE);
    }

    private static void planOfTheMost() {
        TwoTongues x = withElders(1);
        for (int i = 0; i < 9; i++) x.claim(0, 100, 0, 1, 0, 1000);
        int wait = 0;
        for (int i = 1; i <= 9; i++) wait += 100 * (1000 * i - 1);
        duePlan(x, 1, 0, wait, 0, 1, 2, 3, 4, 5, 6, 7, 8);
        TwoTongues y = withElders(1);
        for (int i = 0; i < 9; i++) y.claim(0, 1 + i, 0, 1, 255, 1000);
        duePlan(y, 1000, 255, 8 + 2 * 7 + 3 * 6 + 4 * 5 + 5 * 4 + 6 * 3 + 7 * 2 + 8, 8, 7, 6, 5, 4, 3, 2, 1, 0);
        duePlan(y, 1000, 254, 0);
    }

    // Promise 40: "WAIT (i = -1), the i-th CLAIM. NONE; BAD."
    private static void placesOfAPlan() {
        TwoTongues x = withElders(1);
        due("no claim", x.plan(1, 255, -1), 0);
        due("no claim", x.plan(1, 255, 0), NONE);
        for (int claims = 1; claims <= 9; claims++) {
            x.claim(0, 1, 0, 1, 1, 1);
            due("the last of " + claims, x.plan(1000, 1, claims - 1), claims - 1);
            due("behind the last of " + claims, x.plan(1000, 1, claims), NONE);
            due("none founded", x.plan(1000, 0, 0), NONE);
            due("none founded", x.plan(1000, 254, -1), 0);
        }
        due("far behind", x.plan(1, 1, Integer.MAX_VALUE), NONE);
        due("ahead of the wait", x.plan(1, 1, -2), BAD);
        due("far ahead", x.plan(1, 1, Integer.MIN_VALUE), BAD);
    }

    // Promise 41, at nothing and at the last place of each store
    private static void counts() {
        TwoTongues none = new TwoTongues();
        TwoTongues full = States.full(new TwoTongues());
        int[] due = {0, 19, 30, 20, 12, 60, 20, 12, 9, 8, 240, 240};
        for (int what = 0; what < 12; what++) {
            due("count " + what + " of nothing", none.count(what), 0);
            due("count " + what + " of all", full.count(what), due[what]);
        }
        for (int what : new int[] {Integer.MIN_VALUE, -1, 12, Integer.MAX_VALUE}) due("count " + what, full.count(what), BAD);
    }
}
