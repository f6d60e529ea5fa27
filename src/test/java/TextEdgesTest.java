/** Terms 1 and promises 1 to 12 at their edges, sentence by sentence: at each edge and on each side of it. */
public final class TextEdgesTest {
    private static final Check CHECK = new Check();
    private static final int BAD = TwoTongues.BAD, NO = TwoTongues.NO, FULL = TwoTongues.FULL, NONE = TwoTongues.NONE;

    public static void main(String[] args) {
        objectsShareNothing();
        bookFromAYearOn();
        bookOrText();
        twentyInABook();
        bytesOfAWrite();
        textOf240();
        wipe();
        numbersOfItems();
        figures();
        signs();
        fromToTo();
        readAnew();
        placeOfTheFault();
        itemsInForce();
        yearsOfARule();
        factsOfARule();
        verbsThingsWords();
        lastItemRules();
        numbersOfWhy();
        actsUnlike();
        leastFacts();
        doneByWords();
        count();
        CHECK.end();
    }

    private static void due(String call, long got, long want) {
        CHECK.due(call, got, want);
    }

    private static TwoTongues inForce(String one, String other) {
        TwoTongues x = new TwoTongues();
        Check.enact(x, 0, one);
        Check.enact(x, 1, other);
        return x;
    }

    // Promise 1: "Nothing is told; empty TEXTS are IN FORCE."
    private static void objectsShareNothing() {
        TwoTongues told = States.told(new TwoTongues());
        TwoTongues x = new TwoTongues();
        for (int what = 0; what < 12; what++) due("count of a new one beside another " + what, x.count(what), 0);
        due("means of a new one", x.means(0, 0, 200), 0);
        due("number of the first person", x.person(0, -1, -1), 0);
        due("number of the first block", x.block(1), 0);
        due("the other one is as it was", told.count(2), 7);
        for (int tongue = 0; tongue < 2; tongue++) {
            due("an empty text has no fault", x.fault(tongue), NONE);
            due("an empty text comes into force", x.force(tongue), 0);
            due("an empty text lets nothing", x.let(tongue, 0, 0, 0, 255), 0);
        }
    }

    // "a WORD means a set of VERBS (bits) from a YEAR on; in a YEAR what was told for the latest YEAR that is no later (nothing: none)"
    private static void bookFromAYearOn() {
        TwoTongues x = new TwoTongues();
        due("nothing told", x.means(0, 0, 0), 0);
        due("nothing told", x.means(0, 0, 200), 0);
        due("the last year", x.book(0, 0, 200, 63), 1);
        due("ahead of it", x.means(0, 0, 199), 0);
        due("in it", x.means(0, 0, 200), 63);
        due("the first year", x.book(0, 0, 0, 1), 2);
        due("in it", x.means(0, 0, 0), 1);
        due("behind it", x.means(0, 0, 1), 1);
        due("up to the next", x.means(0, 0, 199), 1);
        due("the next", x.means(0, 0, 200), 63);
        due("no verb from then on", x.book(0, 0, 100, 0), 3);
        due("ahead", x.means(0, 0, 99), 1);
        due("none in it", x.means(0, 0, 100), 0);
        due("none behind it", x.means(0, 0, 199), 0);
        due("the last word", x.book(1, 7, 50, 32), 1);
        due("ahead", x.means(1, 7, 49), 0);
        due("in it", x.means(1, 7, 50), 32);
        due("behind", x.means(1, 7, 51), 32);
        due("the next word", x.means(1, 6, 51), 0);
        due("the other tongue", x.means(0, 7, 51), 0);
    }

    // "of one YEAR what the TEXT IN FORCE tells ahead of what book() told, then the latest told"
    private static void bookOrText() {
        TwoTongues x = inForce("w0,100,1;", "");
        x.book(0, 0, 99, 2);
        due("the text a year later", x.means(0, 0, 100), 1);
        due("the book a year ahead", x.means(0, 0, 99), 2);
        x.book(0, 0, 100, 4);
        due("of one year the text, though told ahead", x.means(0, 0, 100), 1);
        due("of one year the text, later on too", x.means(0, 0, 200), 1);
        x.book(0, 0, 101, 8);
        due("the book a year later", x.means(0, 0, 101), 8);
        due("the text till then", x.means(0, 0, 100), 1);
        x.book(0, 0, 101, 16);
        due("of one year the latest told by book", x.means(0, 0, 101), 16);
        Check.enact(x, 0, "w0,100,5;w0,99,6;w0,100,7;");
        due("of one year the latest told by the text", x.means(0, 0, 100), 7);
        due("of one year the text", x.means(0, 0, 99), 6);
        due("nothing ahead", x.means(0, 0, 98), 0);
        TwoTongues alone = inForce("w0,100,5;w0,99,6;", "");
        due("the text's later year, though written ahead", alone.means(0, 0, 100), 5);
        due("the text's year ahead", alone.means(0, 0, 99), 6);
        due("nothing ahead of both", alone.means(0, 0, 98), 0);
        Check.enact(x, 0, "w0,100,0;");
        due("the text tells none, ahead of the book", x.means(0, 0, 100), 0);
        Check.enact(x, 0, "w1,100,1;");
        due("another word of the text says nothing of it", x.means(0, 0, 100), 4);
        Check.write(x, 0, "w0,0,63;");
        due("a text that is not in force says nothing", x.means(0, 0, 98), 0);
    }

    // "20 are told by book() of each TONGUE at most."
    private static void twentyInABook() {
        TwoTongues x = inForce("w0,0,1;".repeat(34), "");
        for (int tongue = 0; tongue < 2; tongue++) {
            for (int i = 1; i < 20; i++) due("book " + i, x.book(tongue, 1, i, 1), i);
            due("the 20th, though the text tells 34", x.book(tongue, 7, 200, 63), 20);
            due("the 21st", x.book(tongue, 7, 200, 1), FULL);
            due("the 21st", x.book(tongue, 6, 0, 1), FULL);
            due("wrong, when full", x.book(tongue, 7, 200, 64), BAD);
            due("the 20th stands", x.means(tongue, 7, 200), 63);
            due("the 21st does not", x.means(tongue, 6, 200), 0);
        }
        due("the text tells on", Check.enact(x, 0, "w6,0,9;"), 1);
        due("the text tells on", x.means(0, 6, 0), 9);
    }

    // Promise 3: "n bytes (1 to 8) of v, the highest first"
    private static void bytesOfAWrite() {
        TwoTongues x = new TwoTongues();
        for (int n : new int[] {Integer.MIN_VALUE, -1, 0, 9, Integer.MAX_VALUE}) due("write " + n, x.write(0, n, 0), BAD);
        due("nothing came", x.count(10), 0);
        int length = 0;
        for (int n = 1; n <= 8; n++) {
            length += n;
            due("write " + n, x.write(0, n, -1L), length);
        }
        due("zero bytes are bytes", x.write(1, 8, 0), 8);
        due("the least number", x.write(1, 8, Long.MIN_VALUE), 16);
        due("the greatest number", x.write(1, 8, Long.MAX_VALUE), 24);
        String text = "w1,2,33;l1,5,20,200,255;";
        for (int n = 1; n <= 8; n++) {
            TwoTongues y = new TwoTongues();
            for (int at = 0; at < text.length(); at += n) {
                String piece = text.substring(at, Math.min(at + n, text.length()));
                long above = piece.length() == 8 ? 0 : 0x77L << 8 * piece.length();
                y.write(0, piece.length(), above | Check.packed(piece));
            }
            due("written by " + n, y.force(0), 2);
            due("written by " + n, y.why(0, 5, 5, 20, 255), 1);
        }
    }

    // "Each TONGUE has a TEXT (bytes, 240 at most)"
    private static void textOf240() {
        for (int tongue = 0; tongue < 2; tongue++) {
            for (int n = 1; n <= 8; n++) {
                TwoTongues x = new TwoTongues();
                String start = "w0,0,1;".repeat(33);
                Check.write(x, tongue, start + " ".repeat(240 - n - start.length()));
                due("one more than fits", n == 8 ? FULL : x.write(tongue, n + 1, 0), FULL);
                due("not one byte of it came", x.count(10 + tongue), 240 - n);
                due("to the last byte by " + n, x.write(tongue, n, 0), 240);
                due("one byte more", x.write(tongue, 1, 59), FULL);
                due("eight more", x.write(tongue, 8, 59), FULL);
                due("wrong, when full", x.write(tongue, 0, 59), BAD);
                due("still 240", x.count(10 + tongue), 240);
                due("the other is empty", x.count(11 - tongue), 0);
                due("wiped", x.wipe(tongue), 240);
                due("written anew", x.write(tongue, 8, 0), 8);
            }
        }
        TwoTongues x = new TwoTongues();
        Check.write(x, 0, "w0,0,1;".repeat(33));
        due("232 bytes", x.write(0, 1, 'w'), 232);
        due("eight to 240", x.write(0, 8, Check.packed("0,00,02;")), 240);
        due("240 bytes come into force", x.force(0), 34);
        due("to the last byte", x.means(0, 0, 0), 2);
        TwoTongues y = new TwoTongues();
        Check.write(y, 0, "w0,0,1;".repeat(33) + "w0,00,2");
        due("three of which one fits with its byte", y.write(0, 3, Check.packed("3;;")), FULL);
        due("what was refused left no byte", y.write(0, 1, ';'), 239);
        due("what was refused left no byte", y.force(0), 34);
        due("what was refused left no byte", y.means(0, 0, 0), 2);
    }

    // Promise 4: "THE TEXT of a TONGUE is empty: how long it was."
    private static void wipe() {
        TwoTongues x = new TwoTongues();
        due("wipe of an empty text", x.wipe(0), 0);
        x.write(0, 1, 0);
        due("wipe of one byte", x.wipe(0), 1);
        due("wipe again", x.wipe(0), 0);
        Check.write(x, 1, "w0,0,1;".repeat(33) + "w0,00,02;");
        x.force(1);
        due("wipe of the other", x.wipe(0), 0);
        due("wipe of 240", x.wipe(1), 240);
        due("in force stays", x.count(1), 34);
        due("force of the empty text", x.force(1), 0);
        due("takes its place", x.count(1), 0);
        due("takes its place", x.means(1, 0, 0), 0);
        Check.write(x, 1, "w0,0,1;");
        due("a shorter text behind a longer one", x.force(1), 1);
    }

    private static int faultOf(String text) {
        TwoTongues x = new TwoTongues();
        Check.write(x, 0, text);
        int fault = x.fault(0);
        due("force of " + text, x.force(0) == NO ? 1 : 0, fault == NONE ? 0 : 1);
        return fault;
    }

    private static void good(String text) {
        due("fault of " + text, faultOf(text), NONE);
    }

    private static void faulty(String item) {
        due("fault of " + item, faultOf(item), 0);
        due("fault behind two of " + item, faultOf("w0,0,0;b7,5,0,200,255;" + item), 22);
    }

    private static String item(char letter, int[] numbers) {
        StringBuilder text = new StringBuilder().append(letter);
        for (int i = 0; i < numbers.length; i++) text.append(numbers[i]).append(i == numbers.length - 1 ? ';' : ',');
        return text.toString();
    }

    // "lW,T,s,t,F", "bW,T,s,t,F", "wW,s,M": WORDS 0 to 7, THINGS 0 to 5, YEARS 0 to 200, F 0 to 255, M 0 to 63
    private static void numbersOfItems() {
        for (char letter : new char[] {'l', 'b', 'w'}) {
            int[] most = letter == 'w' ? new int[] {7, 200, 63} : new int[] {7, 5, 200, 200, 255};
            for (int at = 0; at < most.length; at++) {
                for (int number : new int[] {0, 1, most[at] - 1, most[at], most[at] + 1, most[at] + 10, 256, 999}) {
                    int[] numbers = new int[most.length];
                    if (letter != 'w' && at == 2) numbers[3] = 200;
                    numbers[at] = number;
                    if (number <= most[at]) good(item(letter, numbers));
                    else faulty(item(letter, numbers));
                }
            }
            good(item(letter, most));
        }
    }

    // "numbers (of one to three figures)"
    private static void figures() {
        for (String form : new String[] {"w#,1,2;", "w1,#,2;", "w1,2,#;", "l#,1,2,3,4;", "l1,#,2,3,4;", "l1,2,#,3,4;", "b1,2,3,#,4;", "b1,2,3,4,#;"}) {
            for (String number : new String[] {"3", "03", "003"}) good(form.replace("#", number));
            for (String number : new String[] {"", "0003", "00003", " 3", "3 ", "-3", "+3", "3.", "0x3", "a", "3,3"}) faulty(form.replace("#", number));
        }
        good("l7,5,000,200,255;");
        faulty("l7,5,0000,200,255;");
    }

    // "each a letter, numbers parted by , and ;": the signs next to each one are none
    private static void signs() {
        for (char letter = 0; letter < 256; letter++) {
            for (String numbers : new String[] {"", ";", "0", "0;", ",;", "0,0;", "0,0,0,0;", "0,0,0,0,0,0;"}) faulty(letter + numbers);
            if (letter != 'w') faulty(letter + "0,0,0;");
            if (letter != 'l' && letter != 'b') faulty(letter + "0,0,0,0,0;");
            if (letter != ',') faulty("w0" + letter + "0,0;");
            if (letter != ';') faulty("w0,0,0" + letter);
            if (letter < '0' || letter > '9') faulty("w0,0," + letter + ";");
            else good("w0,0," + letter + ";");
            if (letter < '0' || letter > '9') faulty("l0,0,0,1" + letter + ",0;");
            else good("l0,0,0,1" + letter + ",0;");
        }
        faulty("w0,0,0,0;");
        faulty("w0,0;");
        faulty("l0,0,0,0;");
        faulty("l0,0,0,0,0,0;");
        due("a second ;", faultOf("w0,0,0;;"), 7);
        due("a blank behind", faultOf("w0,0,0; "), 7);
        due("a new line behind", faultOf("w0,0,0;\n"), 7);
    }

    // "(s no more than t)"
    private static void fromToTo() {
        int[][] good = {{0, 0}, {0, 1}, {0, 200}, {99, 100}, {100, 100}, {199, 200}, {200, 200}};
        int[][] bad = {{1, 0}, {101, 100}, {200, 199}, {200, 0}, {201, 201}, {200, 201}, {0, 201}};
        for (char letter : new char[] {'l', 'b'}) {
            for (int[] years : good) good(item(letter, new int[] {0, 0, years[0], years[1], 0}));
            for (int[] years : bad) faulty(item(letter, new int[] {0, 0, years[0], years[1], 0}));
        }
    }

    /** What was read once, well or with a fault, leaves nothing behind for the next reading. */
    private static void readAnew() {
        String[] wrong = {"w8,0,0;", "w0,201,0;", "w0,0,64;", "w999,999,999;", "l8,0,0,0,0;", "l0,6,0,0,0;", "b0,0,201,201,0;", "b0,0,9,8,0;", "b0,0,0,201,0;", "l0,0,0,0,256;",
            "l999,999,999,999,999;", "l9,9,9", "x", "w9,9,9,9"};
        String[] good = {"w7,200,63;", "w0,0,0;", "l7,5,200,200,255;", "l0,0,0,0,0;", "b7,5,0,200,255;", "b0,0,0,0,0;"};
        for (String bad : wrong) {
            for (String right : good) {
                TwoTongues x = new TwoTongues();
                Check.write(x, 0, bad);
                due("fault of " + bad, x.fault(0), 0);
                due("fault of " + right + " behind " + bad, Check.enact(x, 0, right), 1);
                due("no fault of " + right + " behind " + bad, x.fault(0), NONE);
                Check.write(x, 0, bad);
                due("fault behind " + right, x.fault(0), right.length());
                due("force behind " + right, x.force(0), NO);
                for (String cut : new String[] {"x0;", "l0;", "w;", "b0,0,0,0;"}) {
                    Check.enact(x, 0, right + cut);
                    due("what stands in " + right + " is not read on in " + cut, x.fault(0), right.length());
                }
            }
        }
        TwoTongues x = new TwoTongues();
        x.book(0, 0, 0, 1);
        for (String text : new String[] {"l0,5,0,200,255;", "w0,100,63;", "b0,0,0,200,0;", "w7,0,0;", "l0,0,50,60,1;"}) due("one in place of another", Check.enact(x, 0, text), 1);
        int[][] rows = {{49, 1, NONE}, {50, 1, 0}, {60, 1, 0}, {61, 1, NONE}, {50, 0, NONE}};
        for (int[] r : rows) ruled(x, 0, 0, r[0], r[1], r[2]);
        due("the book alone", x.means(0, 0, 200), 1);
    }

    // "FAULT: the place of the first byte of the first ITEM that is not so."
    private static void placeOfTheFault() {
        due("no item at all", faultOf(""), NONE);
        due("the first byte", faultOf(";"), 0);
        due("the first byte of an item that breaks off", faultOf("w0,0,0;l0,0,0,0,0"), 7);
        due("the first of two", faultOf("w0,0,0;w0,0,64;w0,0,65;"), 7);
        due("the first of two, the other wrong by its sign", faultOf("w8,0,0;w0,0,0;?"), 0);
        String most = "w0,0,1;".repeat(33);
        due("the last place", faultOf(most + "w0,00,1;" + "w"), 239);
        due("of 240 bytes the last item breaks off", faultOf(most + "w0,00,002"), 231);
        good(most + "w0,00,02;");
        for (int cut = 1; cut < 7; cut++) due("cut to " + cut, faultOf("l1,1,1,1,1;" + "w0,0,1;".substring(0, cut)), 11);
        TwoTongues x = new TwoTongues();
        Check.write(x, 1, "w0,0,0;x");
        due("of the other tongue", x.fault(0), NONE);
        due("of this tongue", x.fault(1), 7);
        due("asked again", x.fault(1), 7);
        x.wipe(1);
        due("wiped", x.fault(1), NONE);
    }

    // "IN FORCE is a TEXT without FAULT (empty at first), in place of that ahead."
    private static void itemsInForce() {
        TwoTongues x = new TwoTongues();
        due("empty at first", x.count(0), 0);
        due("one item", Check.enact(x, 0, "l0,0,0,200,0;"), 1);
        x.book(0, 0, 0, 1);
        due("written, not yet in force", Check.write(x, 0, "b0,0,0,200,0;"), 26);
        due("written, not yet in force", x.let(0, 0, 0, 0, 0), 1);
        due("now in force", x.force(0), 2);
        due("now in force", x.let(0, 0, 0, 0, 0), 0);
        Check.write(x, 0, "l0,0,0,200,0;!");
        due("a fault behind good items", x.force(0), NO);
        due("nothing of it came into force", x.count(0), 2);
        due("nothing of it came into force", x.let(0, 0, 0, 0, 0), 0);
        due("the text stays as written", x.fault(0), 39);
        due("34 items", Check.enact(x, 0, "w0,0,0;".repeat(33) + "w0,00,63;"), 34);
        due("the last of them", x.means(0, 0, 0), 63);
        due("21 rules", Check.enact(x, 0, "l0,0,0,0,0;".repeat(21)), 21);
        due("none of those ahead", x.means(0, 0, 1), 1);
        due("in force again", x.force(0), 21);
        due("the other tongue", x.count(1), 0);
        due("none", Check.enact(x, 0, ""), 0);
        due("none", x.why(0, 0, 0, 0, 0), NONE);
    }

    private static void ruled(TwoTongues x, int verb, int thing, int year, int facts, int why) {
        String of = verb + " " + thing + " " + year + " " + facts;
        due("why " + of, x.why(0, verb, thing, year, facts), why);
        due("let " + of, x.let(0, verb, thing, year, facts), why >= 0 ? 1 : 0);
    }

    // "in YEARS s to t"
    private static void yearsOfARule() {
        TwoTongues x = inForce("w0,0,1;l0,0,50,60,0;l0,1,70,70,0;l0,2,0,0,0;l0,3,200,200,0;l0,4,0,200,0;", "");
        int[][] rows = {{0, 49, NONE}, {0, 50, 1}, {0, 51, 1}, {0, 59, 1}, {0, 60, 1}, {0, 61, NONE}, {1, 69, NONE}, {1, 70, 2}, {1, 71, NONE},
            {2, 0, 3}, {2, 1, NONE}, {3, 199, NONE}, {3, 200, 4}, {4, 0, 5}, {4, 200, 5}, {5, 0, NONE}};
        for (int[] r : rows) ruled(x, 0, r[0], r[1], 0, r[2]);
        TwoTongues y = inForce("w0,50,1;w0,60,2;l0,0,40,70,0;", "");
        int[][] meant = {{0, 49, NONE}, {0, 50, 2}, {0, 59, 2}, {0, 60, NONE}, {1, 59, NONE}, {1, 60, 2}, {1, 70, 2}, {1, 71, NONE}};
        for (int[] r : meant) ruled(y, r[0], 0, r[1], 0, r[2]);
    }

    // "if all FACTS of the set F (0 to 255) are so", "whose FACTS are all in the set"
    private static void factsOfARule() {
        TwoTongues x = inForce("w0,0,1;l0,0,0,9,0;l0,1,0,9,1;l0,2,0,9,128;l0,3,0,9,129;l0,4,0,9,255;l0,5,0,9,254;", "");
        int[][] rows = {{0, 0, 1}, {0, 255, 1}, {1, 0, NONE}, {1, 1, 2}, {1, 2, NONE}, {1, 3, 2}, {1, 254, NONE}, {1, 255, 2}, {2, 127, NONE}, {2, 128, 3},
            {2, 129, 3}, {3, 1, NONE}, {3, 128, NONE}, {3, 129, 4}, {3, 131, 4}, {4, 254, NONE}, {4, 127, NONE}, {4, 255, 5}, {5, 253, NONE}, {5, 254, 6}, {5, 255, 6}};
        for (int[] r : rows) ruled(x, 0, r[0], 0, r[1], r[2]);
        for (int fact = 0; fact < 8; fact++) {
            TwoTongues y = inForce("w0,0,1;l0,0,0,9," + (1 << fact) + ";", "");
            for (int other = 0; other < 8; other++) ruled(y, 0, 0, 0, 1 << other, other == fact ? 1 : NONE);
            ruled(y, 0, 0, 0, 255 - (1 << fact), NONE);
        }
    }

    // "VERBS 0 to 5, THINGS 0 to 5, .. WORDS 0 to 7"
    private static void verbsThingsWords() {
        for (int word = 0; word < 8; word++) {
            for (int verb = 0; verb < 6; verb++) {
                int thing = (word + verb) % 6;
                TwoTongues x = inForce("w" + word + ",0," + (1 << verb) + ";l" + word + "," + thing + ",0,200,0;", "");
                due("what the word means", x.means(0, word, 0), 1 << verb);
                due("one act alone", x.unlike(0, 0, -1), 1);
                due("6 VERB and THING", x.unlike(0, 0, 0), 6 * verb + thing);
                for (int other = 0; other < 6; other++) {
                    ruled(x, other, thing, 0, 0, other == verb ? 1 : NONE);
                    ruled(x, verb, other, 0, 0, other == thing ? 1 : NONE);
                }
            }
        }
    }

    // "by the last ITEM (l, b) of that THING and YEAR whose WORD means the VERB .. (none: it is not let)"
    private static void lastItemRules() {
        String let = "l0,0,0,200,0;", barred = "b0,0,0,200,0;";
        Object[][] rows = {{"", 0, NONE}, {let, 1, 1}, {barred, 0, 1}, {let + barred, 0, 2}, {barred + let, 1, 2}, {let + let, 1, 2}, {barred + barred, 0, 2},
            {let + barred + let, 1, 3}, {let + "b0,1,0,200,0;", 1, 1}, {let + "b1,0,0,200,0;", 1, 1}, {let + "b0,0,1,200,0;", 1, 1}, {let + "b0,0,0,0,1;", 1, 1},
            {barred + "l0,0,0,200,1;", 0, 1}, {let + "w1,0,1;" + "b1,0,0,0,0;", 0, 3}, {let + "b1,0,0,0,0;" + "w1,0,1;", 0, 2}, {let + "b1,0,0,0,0;" + "w1,1,1;", 1, 1}};
        for (Object[] r : rows) {
            TwoTongues x = inForce("w0,0,1;" + r[0], "");
            due("let by " + r[0], x.let(0, 0, 0, 0, 0), (Integer) r[1]);
            due("why by " + r[0], x.why(0, 0, 0, 0, 0), (Integer) r[2]);
        }
    }

    // "WHY: its number": of all ITEMS, from 0
    private static void numbersOfWhy() {
        TwoTongues x = inForce("l0,0,0,200,0;" + "w0,0,1;".repeat(32), "");
        due("33 items", x.count(0), 33);
        due("the first", x.why(0, 0, 0, 0, 0), 0);
        TwoTongues y = inForce("w0,0,1;".repeat(32) + "l0,0,0,200,0;", "");
        due("the last of 33", y.why(0, 0, 0, 0, 0), 32);
        TwoTongues z = inForce("", "l0,0,0,0,0;".repeat(21));
        z.book(1, 0, 0, 63);
        due("the last of 21", z.why(1, 5, 0, 0, 0), 20);
        due("of the other tongue", z.why(0, 5, 0, 0, 0), NONE);
    }

    private static String lettingAll() {
        return "w0,0,63;l0,0,0,200,0;l0,1,0,200,0;l0,2,0,200,0;l0,3,0,200,0;l0,4,0,200,0;l0,5,0,200,0;";
    }

    // "UNLIKE: ACTS that one TONGUE lets and the other not."
    private static void actsUnlike() {
        for (int side = 0; side < 2; side++) {
            TwoTongues x = side == 0 ? inForce(lettingAll(), "") : inForce("", lettingAll());
            due("all acts", x.unlike(0, 0, -1), 36);
            for (int i = 0; i < 36; i++) due("act " + i, x.unlike(200, 255, i), i);
            due("behind the last", x.unlike(0, 0, 36), NONE);
            due("far behind", x.unlike(0, 0, Integer.MAX_VALUE), NONE);
            due("ahead of how many", x.unlike(0, 0, -2), BAD);
            due("far ahead", x.unlike(0, 0, Integer.MIN_VALUE), BAD);
        }
        TwoTongues both = inForce(lettingAll(), lettingAll());
        due("no act", both.unlike(0, 0, -1), 0);
        due("no first act", both.unlike(0, 0, 0), NONE);
        TwoTongues first = inForce("w0,0,1;l0,0,50,50,1;", "");
        TwoTongues last = inForce("", "w0,0,32;l0,5,50,50,1;");
        int[][] rows = {{49, 1, 0}, {50, 1, 1}, {51, 1, 0}, {50, 0, 0}, {50, 2, 0}, {50, 3, 1}};
        for (int[] r : rows) {
            due("unlike in " + r[0] + " with " + r[1], first.unlike(r[0], r[1], -1), r[2]);
            due("unlike in " + r[0] + " with " + r[1], last.unlike(r[0], r[1], -1), r[2]);
        }
        due("the first act", first.unlike(50, 1, 0), 0);
        due("the last act", last.unlike(50, 1, 0), 35);
        due("one act alone", last.unlike(50, 1, 1), NONE);
        TwoTongues barred = inForce("w0,0,1;b0,0,0,200,0;", "");
        due("what is barred and what is not let are alike", barred.unlike(0, 0, -1), 0);
    }

    // "LEAST: the set of fewest FACTS with which an ACT is UNLIKE in a YEAR (of several the least bits)."
    private static void leastFacts() {
        Object[][] rows = {{"l0,0,0,9,0;", 0}, {"l0,0,0,9,1;", 1}, {"l0,0,0,9,128;", 128}, {"l0,0,0,9,255;", 255}, {"l0,0,0,9,254;", 254}, {"l0,0,0,9,3;l0,0,0,9,128;", 128},
            {"l0,0,0,9,192;l0,0,0,9,129;", 129}, {"l0,0,0,9,129;l0,0,0,9,192;", 129}, {"l0,0,0,9,7;l0,0,0,9,24;", 24}, {"l0,0,0,9,64;l0,0,0,9,0;", 0},
            {"l0,0,0,9,127;l0,0,0,9,254;", 127}, {"b0,0,0,9,0;", NONE}, {"l0,0,0,9,5;b0,0,0,9,1;", NONE}, {"l0,0,0,9,1;b0,0,0,9,3;", 1}};
        for (Object[] r : rows) {
            due("least of " + r[0], inForce("w0,0,1;" + r[0], "").least(0, 9), (Integer) r[1]);
            due("least of the other " + r[0], inForce("", "w0,0,1;" + r[0]).least(0, 9), (Integer) r[1]);
            due("least behind its years " + r[0], inForce("w0,0,1;" + r[0], "").least(0, 10), NONE);
            due("least of alike ones " + r[0], inForce("w0,0,1;" + r[0], "w0,0,1;" + r[0]).least(0, 9), NONE);
        }
        TwoTongues x = inForce("w0,0,32;l0,5,200,200,255;", "");
        due("of the last act", x.least(35, 200), 255);
        due("a year ahead", x.least(35, 199), NONE);
        due("the act next to it", x.least(34, 200), NONE);
        due("behind the last act", x.least(36, 200), BAD);
        due("ahead of the first act", x.least(-1, 200), BAD);
        TwoTongues y = inForce("w0,0,1;l0,0,0,9,0;", "w0,0,1;l0,0,0,9,0;b0,0,0,9,255;");
        due("unlike by a bar with all facts", y.least(0, 0), 255);
    }

    // "DONE BY: .. those WORDS each of which alone, meaning in TONGUE 0 that YEAR what it means in TONGUE 1, makes it UNLIKE no more."
    private static void doneByWords() {
        StringBuilder bars = new StringBuilder("w0,0,32;l0,5,10,20,1;");
        for (int word = 1; word < 8; word++) bars.append("b").append(word).append(",5,10,20,0;");
        TwoTongues x = inForce(bars.toString(), "");
        due("word 0 alone", x.doneBy(35, 10, 1), 1);
        for (int word = 1; word < 8; word++) {
            x.book(1, word, 10, 32);
            due("words 0 to " + word, x.doneBy(35, 20, 1), (2 << word) - 1);
        }
        due("all eight", x.doneBy(35, 15, 255), 255);
        due("ahead of the years", x.doneBy(35, 9, 1), NO);
        due("behind the years", x.doneBy(35, 21, 1), NO);
        due("without the fact", x.doneBy(35, 15, 254), NO);
        due("the act next to it", x.doneBy(34, 15, 1), NO);
        due("wrong ahead of NO", x.doneBy(36, 9, 0), BAD);
        due("wrong ahead of NO", x.doneBy(34, 201, 0), BAD);
        due("wrong ahead of NO", x.doneBy(34, 9, 256), BAD);
        TwoTongues y = inForce("w7,0,1;l7,0,0,9,0;", "");
        due("word 7 alone", y.doneBy(0, 0, 0), 128);
        TwoTongues z = inForce("w0,0,1;w1,0,1;l0,0,0,9,0;l1,0,0,9,0;", "");
        due("two that only together do it", z.doneBy(0, 0, 0), 0);
        TwoTongues other = inForce("", "w0,0,1;l0,0,0,9,0;");
        due("tongue 1 lets what no word of tongue 0 can", other.doneBy(0, 0, 0), 0);
        Check.enact(other, 0, "l0,0,0,9,0;");
        due("a word that tongue 0 does not know", other.doneBy(0, 0, 0), 1);
        due("its meaning is tried, not told", other.means(0, 0, 0), 0);
        TwoTongues years = inForce("w0,0,1;w0,5,0;l0,0,0,9,0;", "w0,0,0;w0,5,1;l0,0,0,9,0;");
        due("by the meaning of that year", years.doneBy(0, 4, 0), 1);
        due("by the meaning of that year", years.doneBy(0, 5, 0), 1);
    }

    // Promise 41: "0 and 1 ITEMS IN FORCE of both TONGUES, .. 10 and 11 bytes of both TEXTS"
    private static void count() {
        TwoTongues x = new TwoTongues();
        Check.enact(x, 0, "w0,0,0;");
        Check.enact(x, 1, "w0,0,0;w0,0,0;");
        Check.write(x, 0, "abc");
        x.wipe(1);
        due("items in force of tongue 0", x.count(0), 1);
        due("items in force of tongue 1", x.count(1), 2);
        due("bytes of tongue 0", x.count(10), 10);
        due("bytes of tongue 1", x.count(11), 0);
        due("ahead of the first", x.count(-1), BAD);
        due("behind the last", x.count(12), BAD);
    }
}
