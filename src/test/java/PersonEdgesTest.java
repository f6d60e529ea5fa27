/** Terms 2, its PERSONS, KINS and SAYINGS, and promises 13 to 18 at their edges, sentence by sentence. */
public final class PersonEdgesTest {
    private static final Check CHECK = new Check();
    private static final int BAD = TwoTongues.BAD, NO = TwoTongues.NO, FULL = TwoTongues.FULL;

    public static void main(String[] args) {
        thirtyPersons();
        bornInAYear();
        twoParents();
        deadFromAYearOn();
        deadOnce();
        foundersOfKins();
        ofByDescent();
        ofByEitherParent();
        twentySayings();
        whoSaysOfWhom();
        mayBeOf();
        pairsAtOdds();
        CHECK.end();
    }

    private static void due(String call, long got, long want) {
        CHECK.due(call, got, want);
    }

    private static TwoTongues with(int persons) {
        TwoTongues x = new TwoTongues();
        for (int i = 0; i < persons; i++) x.person(10, -1, -1);
        return x;
    }

    // "PERSONS 0 to 29 as they come"; promise 13: "FULL: 30."
    private static void thirtyPersons() {
        TwoTongues x = new TwoTongues();
        for (int i = 0; i < 29; i++) {
            due("number " + i, x.person(i, i < 2 ? -1 : i - 2, i < 2 ? -1 : i - 1), i);
            due("how many", x.count(2), i + 1);
            due("the next is none yet", x.of(i + 1, 0), BAD);
        }
        due("the 30th", x.person(29, 28, 27), 29);
        due("the 31st", x.person(29, -1, -1), FULL);
        due("the 31st, with parents", x.person(29, 28, 29), FULL);
        due("wrong, when full", x.person(-1, -1, -1), BAD);
        due("wrong parents, when full", x.person(0, 28, 30), BAD);
        due("30 still", x.count(2), 30);
        due("the last one is there", x.of(29, 0), 0);
        due("the one that was refused is not", x.of(30, 0), BAD);
        x.founder(28, 0);
        due("the last one's parents are as told", x.of(29, 0), 2);
        due("the last one can die", x.die(29, 28), NO);
        due("the last one can die", x.die(29, 29), 0);
    }

    // "born in a YEAR"
    private static void bornInAYear() {
        TwoTongues x = new TwoTongues();
        due("ahead of the years", x.person(-1, -1, -1), BAD);
        due("in the first", x.person(0, -1, -1), 0);
        due("in the second", x.person(1, -1, -1), 1);
        due("in the last but one", x.person(199, -1, -1), 2);
        due("in the last", x.person(200, -1, -1), 3);
        due("behind the years", x.person(201, -1, -1), BAD);
        due("four came", x.count(2), 4);
    }

    // "two parents (PERSONS told ahead, unlike) or -1"; promise 13: "BAD (one parent alone, too)"
    private static void twoParents() {
        TwoTongues x = with(3);
        int[][] wrong = {{0, -1}, {-1, 0}, {2, -1}, {-1, 2}, {0, 0}, {2, 2}, {3, 0}, {0, 3}, {3, 3}, {3, 4}, {-2, 0}, {0, -2}, {-2, -2}, {-1, -2}, {-2, -1}, {-1, 3}, {3, -1},
            {Integer.MIN_VALUE, Integer.MAX_VALUE}};
        for (int[] w : wrong) due("parents " + w[0] + " " + w[1], x.person(10, w[0], w[1]), BAD);
        due("none came", x.count(2), 3);
        due("the first and the last told", x.person(10, 0, 2), 3);
        due("the last told and the first", x.person(10, 3, 0), 4);
        due("those next to one another", x.person(10, 4, 3), 5);
        due("none", x.person(10, -1, -1), 6);
        due("itself", x.person(10, 7, 0), BAD);
        due("a child ahead of its parents' birth", x.person(0, 0, 1), 7);
    }

    /** The YEARS in which a PERSON is not dead show in whether a founder can have SHARES then. */
    private static void alive(String what, TwoTongues x, int kin, int year, boolean lives) {
        due(what + " in " + year, x.shares(0, kin, year), lives ? 1 : NO);
    }

    // "dead from a YEAR on (none at first)"; promise 14: "NO: it is dead, or that YEAR is ahead of its birth."
    private static void deadFromAYearOn() {
        for (int born : new int[] {0, 1, 100, 199, 200}) {
            for (int after = -1; after <= 1; after++) {
                TwoTongues x = new TwoTongues();
                x.block(1);
                x.person(born, -1, -1);
                x.founder(0, 0);
                int year = born + after;
                int answer = year < 0 || year > 200 ? BAD : after < 0 ? NO : 0;
                due("born in " + born + " dead from " + year, x.die(0, year), answer);
                if (born > 0) alive("not yet born", x, 0, born - 1, false);
                alive("born " + born + ", die " + year, x, 0, born, answer != 0 || after > 0);
                alive("born " + born + ", die " + year, x, 0, 200, answer != 0);
                if (year > born && year <= 200) alive("the year ahead", x, 0, year - 1, true);
            }
        }
    }

    private static void deadOnce() {
        TwoTongues x = with(2);
        x.block(1);
        x.founder(0, 0);
        due("dead from 50 on", x.die(0, 50), 0);
        for (int year : new int[] {9, 10, 49, 50, 51, 200}) due("dead again", x.die(0, year), NO);
        for (int year : new int[] {-1, 201}) due("a wrong year is BAD first", x.die(0, year), BAD);
        alive("the first year stands", x, 0, 49, true);
        alive("the first year stands", x, 0, 50, false);
        due("a year ahead of birth, refused", x.die(1, 9), NO);
        due("the other is not dead", x.die(1, 10), 0);
        due("none that is told", x.die(2, 50), BAD);
        due("none that is told", x.die(-1, 50), BAD);
    }

    // "KINS 0 to 9. A PERSON may be FOUNDER of KINS."; promise 15: "how many that KIN has. NO: it is."
    private static void foundersOfKins() {
        TwoTongues x = with(30);
        for (int kin = 0; kin < 10; kin++) due("of kin " + kin, x.founder(0, kin), 1);
        for (int kin = 0; kin < 10; kin++) due("of kin " + kin + " again", x.founder(0, kin), NO);
        due("behind the last kin", x.founder(0, 10), BAD);
        due("ahead of the first kin", x.founder(0, -1), BAD);
        due("none that is told", x.founder(30, 0), BAD);
        due("none that is told", x.founder(-1, 0), BAD);
        for (int person = 1; person < 30; person++) due("one more", x.founder(person, 9), person + 1);
        due("all thirty", x.founder(29, 9), NO);
        due("another kin has one", x.founder(29, 8), 2);
    }

    // "OF a KIN is a FOUNDER of it, and whoever has a parent that is."
    private static void ofByDescent() {
        TwoTongues x = new TwoTongues();
        x.person(0, -1, -1);
        x.person(0, -1, -1);
        for (int i = 2; i < 30; i++) x.person(i, i - 1, 0);
        for (int i = 0; i < 30; i++) due("nobody founds it", x.of(i, 9), 0);
        x.founder(1, 9);
        due("the other parent is not", x.of(0, 9), 0);
        for (int i = 1; i < 30; i++) due("of by descent " + i, x.of(i, 9), 2);
        for (int i = 0; i < 30; i++) due("of another kin " + i, x.of(i, 8), 0);
        x.founder(29, 8);
        due("the last one", x.of(29, 8), 2);
        due("not its parent", x.of(28, 8), 0);
        x.founder(15, 0);
        due("not the parent", x.of(14, 0), 0);
        due("the founder", x.of(15, 0), 2);
        due("its child", x.of(16, 0), 2);
    }

    private static void ofByEitherParent() {
        TwoTongues x = with(4);
        x.founder(0, 0);
        x.founder(1, 1);
        int[][] parents = {{0, 2}, {2, 0}, {1, 3}, {3, 1}, {0, 1}, {2, 3}};
        int[][] due = {{2, 0}, {2, 0}, {0, 2}, {0, 2}, {2, 2}, {0, 0}};
        for (int i = 0; i < parents.length; i++) {
            int child = x.person(20, parents[i][0], parents[i][1]);
            due("of kin 0: child of " + parents[i][0] + " " + parents[i][1], x.of(child, 0), due[i][0]);
            due("of kin 1: child of " + parents[i][0] + " " + parents[i][1], x.of(child, 1), due[i][1]);
        }
        x.die(0, 15);
        due("a parent dead ahead of its birth", x.of(4, 0), 2);
    }

    // "SAYINGS, 20 at most"
    private static void twentySayings() {
        TwoTongues x = with(30);
        for (int i = 1; i < 20; i++) due("saying " + i, x.say(i, 0, 5, false), i);
        due("the 20th", x.say(29, 0, 5, true), 20);
        due("the 21st", x.say(1, 0, 5, false), FULL);
        due("the 21st", x.say(2, 0, 5, true), FULL);
        due("the 21st, of another", x.say(1, 2, 3, true), FULL);
        due("wrong, when full", x.say(1, 1, 5, false), BAD);
        due("wrong, when full", x.say(1, 0, 10, false), BAD);
        due("20 still", x.count(3), 20);
        due("the 20th is the latest", x.of(0, 5), 1);
        due("the 20th against 19", x.odds(0, 5), 19);
        due("nothing said of another", x.of(2, 3), 0);
    }

    // "a PERSON says of another one"; promise 16: "BAD (of itself, too)"
    private static void whoSaysOfWhom() {
        TwoTongues x = with(2);
        int[][] wrong = {{0, 0, 0}, {1, 1, 9}, {2, 0, 0}, {0, 2, 0}, {2, 2, 0}, {-1, 0, 0}, {0, -1, 0}, {-1, -1, 0}, {0, 1, 10}, {0, 1, -1}};
        for (int[] w : wrong) due("say " + w[0] + " " + w[1] + " " + w[2], x.say(w[0], w[1], w[2], true), BAD);
        due("none was said", x.count(3), 0);
        due("of the first kin", x.say(0, 1, 0, true), 1);
        due("of the last kin", x.say(1, 0, 9, true), 2);
        due("of one's child or parent, of anybody", x.of(0, 9) + x.of(1, 0), 2);
        due("of the kin next to it", x.of(0, 8) + x.of(1, 1), 0);
    }

    // "A PERSON MAY BE OF a KIN that it is not OF, if the latest SAYING of the two says so."
    private static void mayBeOf() {
        TwoTongues x = with(4);
        due("nothing said", x.of(0, 3), 0);
        x.say(1, 0, 3, false);
        due("is not", x.of(0, 3), 0);
        x.say(2, 0, 3, true);
        due("another says so", x.of(0, 3), 1);
        x.say(3, 0, 4, false);
        x.say(3, 1, 3, false);
        due("of another kin, of another person", x.of(0, 3), 1);
        x.say(2, 0, 3, false);
        due("the same one says not", x.of(0, 3), 0);
        x.say(1, 0, 3, true);
        due("the first one says so", x.of(0, 3), 1);
        x.founder(0, 3);
        due("it is OF it", x.of(0, 3), 2);
        x.say(1, 0, 3, false);
        due("it is OF it, whatever is said", x.of(0, 3), 2);
        x.say(1, 2, 3, true);
        due("may be", x.of(2, 3), 1);
        due("its child", x.person(30, 1, 2), 4);
        due("its child is not", x.of(4, 3), 0);
    }

    // "AT ODDS are two PERSONS of whose latest SAYINGS of one PERSON and KIN one says so, the other not."
    private static void pairsAtOdds() {
        TwoTongues x = with(21);
        due("nothing said", x.odds(20, 9), 0);
        x.say(0, 20, 9, true);
        due("one alone", x.odds(20, 9), 0);
        x.say(0, 20, 9, false);
        due("not with itself", x.odds(20, 9), 0);
        x.say(1, 20, 9, false);
        due("two that say alike", x.odds(20, 9), 0);
        x.say(1, 20, 9, true);
        due("one pair", x.odds(20, 9), 1);
        x.say(2, 20, 8, true);
        x.say(2, 19, 9, true);
        due("of one person and kin alone", x.odds(20, 9), 1);
        due("the others", x.odds(20, 8) + x.odds(19, 9), 0);
        x.say(0, 20, 9, true);
        due("at one again", x.odds(20, 9), 0);
        TwoTongues most = with(21);
        for (int i = 0; i < 20; i++) {
            most.say(i, 20, 0, i < 10);
            due("pairs of " + (i + 1), most.odds(20, 0), i < 10 ? 0 : 10 * (i - 9));
        }
    }
}
