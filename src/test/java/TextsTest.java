/** Promises 1 to 12: the two TEXTS and their BOOKS. */
public final class TextsTest {
    private static final Check CHECK = new Check();
    private static final int BAD = TwoTongues.BAD, NO = TwoTongues.NO, FULL = TwoTongues.FULL, NONE = TwoTongues.NONE;
    private static final int[] WRONG_YEARS = {-1, 201, Integer.MIN_VALUE, Integer.MAX_VALUE};

    public static void main(String[] args) {
        newObject();
        book();
        write();
        wipe();
        fault();
        force();
        means();
        letAndWhy();
        unlike();
        least();
        doneBy();
        CHECK.end();
    }

    private static void due(String call, long got, long want) {
        CHECK.due(call, got, want);
    }

    private static void newObject() {
        TwoTongues x = new TwoTongues();
        for (int what = 0; what < 12; what++) {
            due("new count " + what, x.count(what), 0);
        }
        for (int tongue = 0; tongue < 2; tongue++) {
            due("new fault", x.fault(tongue), NONE);
            due("new means", x.means(tongue, 7, 200), 0);
            due("new let", x.let(tongue, 0, 0, 0, 255), 0);
            due("new why", x.why(tongue, 0, 0, 0, 255), NONE);
            due("new force", x.force(tongue), 0);
        }
        due("new unlike", x.unlike(0, 255, -1), 0);
        due("new least", x.least(0, 0), NONE);
        due("new doneBy", x.doneBy(0, 0, 0), NO);
    }

    private static void book() {
        TwoTongues x = new TwoTongues();
        for (int i = 1; i <= 20; i++) {
            due("book " + i, x.book(0, i % 8, i, i), i);
        }
        due("book full", x.book(0, 0, 0, 0), FULL);
        due("book full changes nothing", x.means(0, 0, 5), 0);
        due("book bad ahead of full", x.book(0, 8, 0, 0), BAD);
        due("book of the other tongue", x.book(1, 7, 200, 63), 1);
        due("book tongue", x.book(2, 0, 0, 0), BAD);
        due("book tongue", x.book(-1, 0, 0, 0), BAD);
        due("book word", x.book(1, -1, 0, 0), BAD);
        due("book word", x.book(1, 8, 0, 0), BAD);
        due("book verbs", x.book(1, 0, 0, 64), BAD);
        due("book verbs", x.book(1, 0, 0, -1), BAD);
        for (int year : WRONG_YEARS) {
            due("book year", x.book(1, 0, year, 0), BAD);
        }
        due("bad ones were not counted", x.book(1, 0, 0, 0), 2);
    }

    private static void write() {
        TwoTongues x = new TwoTongues();
        due("write of all eight", x.write(0, 8, -1L), 8);
        due("write one", x.write(0, 1, 0x6162L), 9);
        due("write 0", x.write(0, 0, 0), BAD);
        due("write 9", x.write(0, 9, 0), BAD);
        due("write tongue", x.write(2, 1, 0), BAD);
        due("write tongue", x.write(-1, 1, 0), BAD);
        for (int i = 0; i < 28; i++) {
            x.write(0, 8, 0);
        }
        due("write to 237", x.write(0, 4, 0), 237);
        due("write past the end", x.write(0, 4, 0), FULL);
        due("write full changes nothing", x.count(10), 237);
        due("write bad ahead of full", x.write(0, 9, 0), BAD);
        due("write to the end", x.write(0, 3, 0), 240);
        due("write past the end", x.write(0, 1, 0), FULL);
        due("write the other tongue", x.write(1, 1, 0), 1);
        TwoTongues y = new TwoTongues();
        y.write(0, 7, 0xff00000000000000L | Check.packed("w3,0,5;"));
        due("write takes the low bytes, the highest first", y.force(0), 1);
        due("write takes the low bytes, the highest first", y.means(0, 3, 0), 5);
    }

    private static void wipe() {
        TwoTongues x = new TwoTongues();
        due("wipe of nothing", x.wipe(0), 0);
        Check.enact(x, 0, "w0,0,1;");
        Check.write(x, 1, "abc");
        due("wipe", x.wipe(0), 7);
        due("wiped", x.count(10), 0);
        due("the other text stays", x.count(11), 3);
        due("what is in force stays", x.count(0), 1);
        due("what is in force stays", x.means(0, 0, 0), 1);
        due("wiped has no fault", x.fault(0), NONE);
        due("wipe tongue", x.wipe(2), BAD);
        due("wipe tongue", x.wipe(-1), BAD);
    }

    private static int faultOf(String text) {
        TwoTongues x = new TwoTongues();
        Check.write(x, 1, text);
        int fault = x.fault(1);
        due("force of " + text, x.force(1) == NO ? 1 : 0, fault == NONE ? 0 : 1);
        return fault;
    }

    private static void fault() {
        String[] good = {"l7,5,200,200,255;", "b0,0,0,0,0;", "w7,200,63;", "w007,000,063;", "l0,0,5,5,0;b0,0,5,6,0;w0,0,0;"};
        for (String text : good) {
            due("fault of " + text, faultOf(text), NONE);
        }
        String[] bad = {"l8,0,0,0,0;", "l0,6,0,0,0;", "l0,0,1,0,0;", "l0,0,0,201,0;", "l0,0,201,201,0;", "l0,0,0,0,256;",
            "b8,0,0,0,0;", "b0,6,0,0,0;", "b0,0,9,8,0;", "b0,0,0,999,0;", "b0,0,0,0,999;", "w8,0,0;", "w0,201,0;", "w0,0,64;",
            "l0,0,0,0;", "l0,0,0,0,0,0;", "l0,0,0,0,;", "l,0,0,0,0;", "l0,0,0,0,0", "l0,0,0,0,0,", "w0,0;", "w0,0,0,0;", "w0,0,0",
            "w0000,0,0;", "w0,0000,0;", "w0,0,0000;", "x0,0,0;", "L0,0,0,0,0;", "W0,0,0;", ";", "0,0,0;", "w", "w;", "w ,0,0;",
            "w0 ,0,0;", "w-1,0,0;", "w+1,0,0;", "w0,0,0:", "w0;0,0;", " w0,0,0;", "w0,0,/;", "w\u00b0,0,0;", "\u00f7w0,0,0;", "w0,0,:;"};
        for (String text : bad) {
            due("fault of " + text, faultOf(text), 0);
            due("fault behind a good one of " + text, faultOf("w0,0,0;" + text), 7);
            due("fault of the first of two: " + text, faultOf("l0,0,0,0,0;" + text + "q"), 11);
        }
        due("space behind an item", faultOf("w0,0,0; "), 7);
        due("a zero byte behind an item", faultOf("w0,0,0;\0"), 7);
        String full = "w1,10,11;".repeat(26) + "w1,1,";
        due("a whole text", faultOf(full), 234);
        due("34 items", faultOf("w0,0,0;".repeat(34)), NONE);
        TwoTongues x = new TwoTongues();
        due("fault tongue", x.fault(2), BAD);
        due("fault tongue", x.fault(-1), BAD);
    }

    private static void force() {
        TwoTongues x = new TwoTongues();
        due("force of 34", Check.enact(x, 0, "w0,0,0;".repeat(34)), 34);
        due("count of 34", x.count(0), 34);
        due("force of 21", Check.enact(x, 0, "l0,0,0,0,0;".repeat(21)), 21);
        due("in place of that ahead", Check.enact(x, 0, "w0,0,1;l0,0,0,9,0;"), 2);
        Check.write(x, 0, "l");
        due("force with a fault", x.force(0), NO);
        due("that ahead stays", x.let(0, 0, 0, 9, 0), 1);
        due("that ahead stays", x.count(0), 2);
        due("the other has none", x.count(1), 0);
        due("not in force yet", Check.enact(x, 0, "w0,0,1;b0,0,0,9,0;"), 2);
        due("now barred", x.let(0, 0, 0, 9, 0), 0);
        due("force tongue", x.force(2), BAD);
        due("force tongue", x.force(-1), BAD);
    }

    private static void means() {
        TwoTongues x = new TwoTongues();
        x.book(0, 2, 10, 1);
        x.book(0, 2, 50, 2);
        x.book(0, 2, 30, 4);
        x.book(0, 3, 0, 63);
        int[][] byYear = {{9, 0}, {10, 1}, {29, 1}, {30, 4}, {49, 4}, {50, 2}, {200, 2}};
        for (int[] row : byYear) {
            due("means in " + row[0], x.means(0, 2, row[0]), row[1]);
        }
        due("means in the other tongue", x.means(1, 2, 200), 0);
        x.book(0, 2, 30, 8);
        due("the latest told of one year", x.means(0, 2, 30), 8);
        Check.enact(x, 0, "w2,30,16;w2,40,3;w2,30,32;");
        due("the text ahead of the book, the latest", x.means(0, 2, 30), 32);
        due("the text by its years", x.means(0, 2, 40), 3);
        x.book(0, 2, 40, 5);
        due("the text ahead of what is told later", x.means(0, 2, 49), 3);
        due("a later year of the book", x.means(0, 2, 50), 2);
        Check.enact(x, 0, "");
        due("out of force", x.means(0, 2, 49), 5);
        due("out of force", x.means(0, 2, 39), 8);
        x.book(1, 0, 0, 0);
        x.book(1, 0, 5, 7);
        x.book(1, 0, 6, 0);
        due("nothing again", x.means(1, 0, 6), 0);
        due("means tongue", x.means(2, 0, 0), BAD);
        due("means word", x.means(0, 8, 0), BAD);
        due("means word", x.means(0, -1, 0), BAD);
        for (int year : WRONG_YEARS) {
            due("means year", x.means(0, 0, year), BAD);
        }
    }

    private static void letAndWhy() {
        TwoTongues x = new TwoTongues();
        x.book(0, 1, 0, 3);
        x.book(0, 1, 50, 4);
        Check.enact(x, 0, "l1,5,10,60,0;w2,0,1;b2,5,20,30,3;l1,5,25,25,7;");
        int[][] rows = {
            {0, 5, 9, 0, 0, NONE}, {0, 5, 10, 0, 1, 0}, {1, 5, 49, 0, 1, 0}, {0, 5, 50, 0, 0, NONE}, {2, 5, 50, 0, 1, 0},
            {2, 5, 60, 0, 1, 0}, {2, 5, 61, 0, 0, NONE}, {0, 4, 10, 0, 0, NONE}, {0, 5, 20, 3, 0, 2}, {0, 5, 20, 1, 1, 0},
            {0, 5, 30, 255, 0, 2}, {0, 5, 31, 255, 1, 0}, {1, 5, 20, 3, 1, 0}, {0, 5, 25, 3, 0, 2}, {0, 5, 25, 7, 1, 3}, {0, 5, 25, 4, 1, 0}};
        for (int[] r : rows) {
            String of = r[0] + " " + r[1] + " " + r[2] + " " + r[3];
            due("let " + of, x.let(0, r[0], r[1], r[2], r[3]), r[4]);
            due("why " + of, x.why(0, r[0], r[1], r[2], r[3]), r[5]);
            due("let by the other " + of, x.let(1, r[0], r[1], r[2], r[3]), 0);
        }
        int[][] wrong = {{2, 0, 0, 0, 0}, {-1, 0, 0, 0, 0}, {0, 6, 0, 0, 0}, {0, -1, 0, 0, 0}, {0, 0, 6, 0, 0}, {0, 0, -1, 0, 0},
            {0, 0, 0, 201, 0}, {0, 0, 0, -1, 0}, {0, 0, 0, 0, 256}, {0, 0, 0, 0, -1}};
        for (int[] w : wrong) {
            due("let bad", x.let(w[0], w[1], w[2], w[3], w[4]), BAD);
            due("why bad", x.why(w[0], w[1], w[2], w[3], w[4]), BAD);
        }
        TwoTongues y = new TwoTongues();
        Check.enact(y, 0, "l0,0,0,9,0;w0,0,1;");
        due("the book counts wherever its line stands", y.let(0, 0, 0, 0, 0), 1);
        Check.enact(y, 1, "w0,0,1;w0,5,2;l0,0,0,9,0;");
        due("by the meaning of the year asked", y.let(1, 0, 0, 5, 0), 0);
        due("by the meaning of the year asked", y.let(1, 1, 0, 5, 0), 1);
    }

    private static TwoTongues apart() {
        TwoTongues x = new TwoTongues();
        Check.enact(x, 0, "w0,0,33;w1,0,2;l0,0,0,9,0;l0,5,0,9,0;l1,3,0,9,6;b1,3,5,5,1;");
        Check.enact(x, 1, "w0,0,1;w1,0,2;l0,0,0,9,0;l1,3,0,9,16;");
        return x;
    }

    private static void unlike() {
        TwoTongues x = apart();
        due("unlike", x.unlike(0, 0, -1), 3);
        int[] acts = {5, 30, 35, NONE, NONE};
        for (int i = 0; i < acts.length; i++) {
            due("unlike " + i, x.unlike(0, 0, i), acts[i]);
        }
        due("unlike far", x.unlike(0, 0, 36), NONE);
        due("unlike far", x.unlike(0, 0, Integer.MAX_VALUE), NONE);
        due("unlike with facts", x.unlike(0, 16, -1), 4);
        due("unlike with facts", x.unlike(0, 16, 1), 9);
        due("unlike out of years", x.unlike(10, 16, -1), 0);
        due("unlike i", x.unlike(0, 0, -2), BAD);
        due("unlike facts", x.unlike(0, 256, -1), BAD);
        due("unlike facts", x.unlike(0, -1, 0), BAD);
        for (int year : WRONG_YEARS) {
            due("unlike year", x.unlike(year, 0, 99), BAD);
        }
    }

    private static void least() {
        TwoTongues x = apart();
        due("least with no facts", x.least(5, 0), 0);
        due("least: fewer facts ahead of less bits", x.least(9, 0), 16);
        due("least of alike ones", x.least(0, 0), NONE);
        due("least out of years", x.least(9, 10), NONE);
        TwoTongues y = new TwoTongues();
        Check.enact(y, 0, "w0,0,1;l0,0,0,9,128;l0,0,0,9,64;");
        due("least bits of several", y.least(0, 9), 64);
        Check.enact(y, 0, "w0,0,1;l0,0,0,9,255;");
        due("all facts", y.least(0, 9), 255);
        Check.enact(y, 0, "w0,0,1;l0,0,0,9,0;");
        Check.enact(y, 1, "w0,0,1;l0,0,0,9,0;b0,0,0,9,40;b0,0,0,9,80;");
        due("barred by one", y.least(0, 0), 40);
        due("least act", x.least(36, 0), BAD);
        due("least act", x.least(-1, 0), BAD);
        for (int year : WRONG_YEARS) {
            due("least year", x.least(0, year), BAD);
        }
    }

    private static void doneBy() {
        TwoTongues x = apart();
        due("done by the word", x.doneBy(30, 0, 0), 1);
        due("done by no word", x.doneBy(5, 0, 0), 0);
        due("not unlike", x.doneBy(0, 0, 0), NO);
        TwoTongues y = new TwoTongues();
        Check.enact(y, 0, "w1,0,1;w2,0,1;l1,0,0,9,0;b2,0,0,9,0;l3,0,0,9,0;");
        Check.enact(y, 1, "w1,0,1;w3,0,1;l1,0,0,9,0;");
        due("each of two alone", y.doneBy(0, 0, 0), 4 + 8);
        Check.enact(y, 0, "w1,0,1;w2,0,1;b1,0,0,9,0;b2,0,0,9,0;l4,0,0,0,0;");
        Check.enact(y, 1, "w3,0,1;l3,0,0,9,0;");
        due("no word alone", y.doneBy(0, 0, 0), 0);
        y.book(1, 4, 0, 1);
        due("by the book", y.doneBy(0, 0, 0), 16);
        due("the trial leaves no trace", y.means(0, 4, 0), 0);
        due("the trial leaves no trace", y.doneBy(0, 0, 0), 16);
        due("doneBy act", x.doneBy(36, 0, 0), BAD);
        due("doneBy act", x.doneBy(-1, 0, 0), BAD);
        due("doneBy facts", x.doneBy(0, 0, 256), BAD);
        due("doneBy facts", x.doneBy(0, 0, -1), BAD);
        for (int year : WRONG_YEARS) {
            due("doneBy year", x.doneBy(0, year, 0), BAD);
        }
    }
}
