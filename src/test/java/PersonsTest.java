/** Promises 13 to 18: PERSONS, their KINS and SAYINGS. */
public final class PersonsTest {
    private static final Check CHECK = new Check();
    private static final int BAD = TwoTongues.BAD, NO = TwoTongues.NO, FULL = TwoTongues.FULL;

    public static void main(String[] args) {
        person();
        die();
        founder();
        say();
        of();
        odds();
        CHECK.end();
    }

    private static void due(String call, long got, long want) {
        CHECK.due(call, got, want);
    }

    private static TwoTongues with(int persons) {
        TwoTongues x = new TwoTongues();
        for (int i = 0; i < persons; i++) {
            x.person(10, -1, -1);
        }
        return x;
    }

    private static void person() {
        TwoTongues x = new TwoTongues();
        due("a parent not told", x.person(0, 0, 1), BAD);
        due("person", x.person(0, -1, -1), 0);
        due("person", x.person(200, -1, -1), 1);
        int[][] wrong = {{-1, -1, -1}, {201, -1, -1}, {0, 0, -1}, {0, -1, 0}, {0, 0, 0}, {0, 0, 2}, {0, 2, 0}, {0, -2, -2}, {0, -2, 0}, {0, 0, -2}, {0, -1, -2}};
        for (int[] w : wrong) {
            due("person bad", x.person(w[0], w[1], w[2]), BAD);
        }
        due("parents may be later born, nothing bars it", x.person(5, 1, 0), 2);
        for (int i = 3; i < 30; i++) {
            due("person", x.person(i, 0, i - 1), i);
        }
        due("full", x.person(0, -1, -1), FULL);
        due("bad ahead of full", x.person(201, -1, -1), BAD);
        due("count", x.count(2), 30);
    }

    private static void die() {
        TwoTongues x = with(3);
        due("die ahead of birth", x.die(0, 9), NO);
        due("die in the year of birth", x.die(0, 10), 0);
        due("die again", x.die(0, 20), NO);
        due("die again", x.die(0, 10), NO);
        due("die last", x.die(1, 200), 0);
        due("die again", x.die(1, 200), NO);
        due("die person", x.die(3, 20), BAD);
        due("die person", x.die(-1, 20), BAD);
        due("die year", x.die(2, 201), BAD);
        due("die year", x.die(2, -1), BAD);
        due("bad ahead of no", x.die(0, 201), BAD);
        due("nothing changed", x.die(2, 11), 0);
    }

    private static void founder() {
        TwoTongues x = with(2);
        x.person(20, 0, 1);
        due("founder", x.founder(0, 9), 1);
        due("founder again", x.founder(0, 9), NO);
        due("of another kin", x.founder(0, 0), 1);
        due("a second", x.founder(1, 9), 2);
        due("one that is of it by descent", x.founder(2, 9), 3);
        due("again", x.founder(2, 9), NO);
        due("founder person", x.founder(3, 0), BAD);
        due("founder person", x.founder(-1, 0), BAD);
        due("founder kin", x.founder(0, 10), BAD);
        due("founder kin", x.founder(0, -1), BAD);
    }

    private static void say() {
        TwoTongues x = with(3);
        due("say of itself", x.say(1, 1, 0, true), BAD);
        due("say by", x.say(3, 0, 0, true), BAD);
        due("say by", x.say(-1, 0, 0, true), BAD);
        due("say of", x.say(0, 3, 0, true), BAD);
        due("say of", x.say(0, -1, 0, true), BAD);
        due("say kin", x.say(0, 1, 10, true), BAD);
        due("say kin", x.say(0, 1, -1, true), BAD);
        for (int i = 1; i <= 20; i++) {
            due("say", x.say(0, 1, 0, i % 2 == 0), i);
        }
        due("full", x.say(0, 1, 0, false), FULL);
        due("bad ahead of full", x.say(0, 0, 0, false), BAD);
        due("full changes nothing", x.of(1, 0), 1);
        due("count", x.count(3), 20);
    }

    private static void of() {
        TwoTongues x = with(2);
        x.person(20, 0, 1);
        x.person(30, -1, -1);
        x.person(40, 2, 3);
        x.person(60, 4, 0);
        due("not yet", x.of(5, 4), 0);
        x.founder(1, 4);
        int[] due = {0, 2, 2, 0, 2, 2};
        for (int i = 0; i < due.length; i++) {
            due("of " + i, x.of(i, 4), due[i]);
            due("of another kin " + i, x.of(i, 5), 0);
        }
        due("born to one that is of it", x.person(61, 3, 5), 6);
        due("born to one that is of it", x.of(6, 4), 2);
        x.say(0, 6, 4, false);
        due("what is said does not take it", x.of(6, 4), 2);
        x.say(0, 3, 4, true);
        due("may be", x.of(3, 4), 1);
        due("not another kin", x.of(3, 3), 0);
        x.say(1, 3, 4, false);
        due("the latest of anybody", x.of(3, 4), 0);
        x.say(0, 0, 4, true);
        x.say(1, 0, 3, true);
        due("of itself was not told", x.of(0, 4), 0);
        x.say(2, 3, 4, true);
        due("the latest of anybody", x.of(3, 4), 1);
        due("one that may be is no parent that is", x.person(70, 0, 3), 7);
        due("one that may be is no parent that is", x.of(7, 4), 0);
        due("of person", x.of(8, 0), BAD);
        due("of person", x.of(-1, 0), BAD);
        due("of kin", x.of(0, 10), BAD);
        due("of kin", x.of(0, -1), BAD);
    }

    private static void odds() {
        TwoTongues x = with(7);
        due("nothing said", x.odds(0, 2), 0);
        x.say(1, 0, 2, true);
        x.say(2, 0, 2, true);
        due("at one", x.odds(0, 2), 0);
        x.say(3, 0, 2, false);
        due("two against one", x.odds(0, 2), 2);
        x.say(4, 0, 2, false);
        x.say(5, 0, 2, false);
        due("two against three", x.odds(0, 2), 6);
        x.say(5, 0, 2, true);
        due("three against two", x.odds(0, 2), 6);
        x.say(1, 0, 2, false);
        x.say(5, 0, 2, false);
        due("one against four", x.odds(0, 2), 4);
        x.say(6, 0, 3, true);
        x.say(6, 1, 2, true);
        due("of this person and kin alone", x.odds(0, 2), 4);
        due("of another kin", x.odds(0, 3), 0);
        x.founder(0, 2);
        due("of a person that is of it too", x.odds(0, 2), 4);
        x.say(0, 1, 2, false);
        due("the first person too", x.odds(1, 2), 1);
        due("odds person", x.odds(7, 0), BAD);
        due("odds person", x.odds(-1, 0), BAD);
        due("odds kin", x.odds(0, 10), BAD);
        due("odds kin", x.odds(0, -1), BAD);
    }
}
