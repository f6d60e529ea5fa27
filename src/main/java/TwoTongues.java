import java.util.Arrays;

/**
 * A treaty in two tongues, and what hangs on it: texts and their books, persons and their kins,
 * blocks of land and who was wronged by their taking, claims, hearings and settlements.
 *
 * <p>The promises of the document stand with the public methods, in its order. Each of them looks
 * at all its numbers first; the classes inside rely on that.
 */
public final class TwoTongues {
    public static final int BAD = -1, NO = -2, FULL = -3, NONE = -4;

    private static final int LAST_YEAR = 200;
    private static final int VERBS = 6;
    private static final int THINGS = 6;
    private static final int ACTS = VERBS * THINGS;
    private static final int WORDS = 8;
    private static final int FACTS = 8;
    private static final int KINS = 10;
    private static final int BUYERS = 6;
    private static final int VERB_SETS = 1 << VERBS;
    private static final int FACT_SETS = 1 << FACTS;
    private static final int KIN_SETS = 1 << KINS;

    /** More than any COUSINS, WEIGHTS or WAIT can be together. */
    private static final int MANY = 1000000000;

    private static final int BOOK_ROOM = 20;
    private static final int TEXT_ROOM = 240;
    /** The shortest ITEM (w0,0,0;) has 7 bytes. */
    private static final int ITEM_ROOM = TEXT_ROOM / 7;
    private static final int WORD_NUMBERS = 3;
    private static final int RULE_NUMBERS = 5;
    private static final int FIGURES = 3;

    private static final int PERSON_ROOM = 30;
    private static final int SAYING_ROOM = 20;
    /** Later than every YEAR that a hearing can reach. */
    private static final int NEVER = 1000000;

    private static final int BLOCK_ROOM = 12;
    private static final int HOLDING_ROOM = 60;
    private static final int DEED_ROOM = 20;
    private static final int TAKING_ROOM = 12;
    private static final int MOST_WORTH = 1000000;
    private static final int MOST_PIECES = 1000000;
    private static final long WHOLE = 1000000000000L;
    private static final int FIRST_PARCELS = 32;
    /**
     * Never reached: parcels of one heir are unlike only by the product of the child counts on
     * their way. All child counts together are at most 56 (28 children, two parents each), and
     * numbers with that sum have at most 540 unlike products, so 30 heirs stay below this.
     */
    private static final int MOST_PARCELS = 16384;

    private static final int CLAIM_ROOM = 9;
    private static final int MOST_WEIGHT = 100;
    private static final int MOST_TIME = 5;
    private static final int MOST_ASKED = 1000;
    private static final int MOST_COIN = 1000;
    private static final int SETTLEMENT_ROOM = 8;
    private static final int MOST_SUM = 100000;
    private static final int MOST_RATIO = 50;

    private final Tongue one = new Tongue();
    private final Tongue other = new Tongue();
    private final People people = new People();
    private final Land land = new Land();
    private final Estate estate = new Estate(people);
    private final Claims claims = new Claims();
    private final Hearings hearings = new Hearings(claims, people);
    private final Payments payments = new Payments(claims);
    private final Settlements settlements = new Settlements();

    public TwoTongues() {
    }

    // ---- texts

    public int book(int tongue, int word, int year, int verbs) {
        if (!isTongue(tongue) || !isWord(word) || !isYear(year) || !within(verbs, 0, VERB_SETS - 1)) {
            return BAD;
        }
        return tongueOf(tongue).tell(word, year, verbs);
    }

    public int write(int tongue, int n, long v) {
        if (!isTongue(tongue) || !within(n, 1, 8)) {
            return BAD;
        }
        return tongueOf(tongue).text.append(n, v);
    }

    public int wipe(int tongue) {
        if (!isTongue(tongue)) {
            return BAD;
        }
        return tongueOf(tongue).text.clear();
    }

    public int fault(int tongue) {
        if (!isTongue(tongue)) {
            return BAD;
        }
        return tongueOf(tongue).text.firstFault();
    }

    public int force(int tongue) {
        if (!isTongue(tongue)) {
            return BAD;
        }
        return tongueOf(tongue).enact();
    }

    public int means(int tongue, int word, int year) {
        if (!isTongue(tongue) || !isWord(word) || !isYear(year)) {
            return BAD;
        }
        return tongueOf(tongue).meaningOf(word, year);
    }

    public int let(int tongue, int verb, int thing, int year, int facts) {
        if (!isTongue(tongue) || !isVerb(verb) || !isThing(thing) || !isYear(year) || !isFactSet(facts)) {
            return BAD;
        }
        Tongue asked = tongueOf(tongue);
        asked.learn(year);
        return asked.lets(verb, thing, year, facts) ? 1 : 0;
    }

    public int why(int tongue, int verb, int thing, int year, int facts) {
        if (!isTongue(tongue) || !isVerb(verb) || !isThing(thing) || !isYear(year) || !isFactSet(facts)) {
            return BAD;
        }
        Tongue asked = tongueOf(tongue);
        asked.learn(year);
        return asked.ruling(verb, thing, year, facts);
    }

    public int unlike(int year, int facts, int i) {
        if (!isYear(year) || !isFactSet(facts) || i < -1) {
            return BAD;
        }
        learn(year);
        int found = 0;
        for (int act = 0; act < ACTS; act++) {
            if (differ(act, year, facts)) {
                if (found == i) {
                    return act;
                }
                found++;
            }
        }
        return i == -1 ? found : NONE;
    }

    public int least(int act, int year) {
        if (!isAct(act) || !isYear(year)) {
            return BAD;
        }
        learn(year);
        int best = NONE;
        for (int facts = 0; facts < FACT_SETS; facts++) {
            boolean fewer = best == NONE || Integer.bitCount(facts) < Integer.bitCount(best);
            if (fewer && differ(act, year, facts)) {
                best = facts;
            }
        }
        return best;
    }

    public int doneBy(int act, int year, int facts) {
        if (!isAct(act) || !isYear(year) || !isFactSet(facts)) {
            return BAD;
        }
        learn(year);
        if (!differ(act, year, facts)) {
            return NO;
        }
        int words = 0;
        for (int word = 0; word < WORDS; word++) {
            int own = one.meaning[word];
            one.meaning[word] = other.meaning[word];
            if (!differ(act, year, facts)) {
                words |= 1 << word;
            }
            one.meaning[word] = own;
        }
        return words;
    }

    // ---- persons

    public int person(int born, int p, int q) {
        boolean orphan = p == -1 && q == -1;
        boolean child = people.has(p) && people.has(q) && p != q;
        if (!isYear(born) || !orphan && !child) {
            return BAD;
        }
        return people.add(born, p, q);
    }

    public int die(int person, int year) {
        if (!people.has(person) || !isYear(year)) {
            return BAD;
        }
        if (people.dead[person] != NEVER || year < people.born[person]) {
            return NO;
        }
        people.dead[person] = year;
        return 0;
    }

    public int founder(int person, int kin) {
        if (!people.has(person) || !isKin(kin)) {
            return BAD;
        }
        if (people.isFounder(person, kin)) {
            return NO;
        }
        return people.addFounder(person, kin);
    }

    public int say(int by, int of, int kin, boolean is) {
        if (!people.has(by) || !people.has(of) || by == of || !isKin(kin)) {
            return BAD;
        }
        return people.addSaying(by, of, kin, is);
    }

    public int of(int person, int kin) {
        if (!people.has(person) || !isKin(kin)) {
            return BAD;
        }
        if (hasBit(people.kins[person], kin)) {
            return 2;
        }
        return people.isSaidToBe(person, kin) ? 1 : 0;
    }

    public int odds(int person, int kin) {
        if (!people.has(person) || !isKin(kin)) {
            return BAD;
        }
        return people.pairsAtOdds(person, kin);
    }

    // ---- blocks

    public int block(int worth) {
        if (!within(worth, 1, MOST_WORTH)) {
            return BAD;
        }
        return land.addBlock(worth);
    }

    public int paper(int block, int kin, int year) {
        if (!land.has(block) || !within(kin, -1, KINS - 1) || !isYear(year)) {
            return BAD;
        }
        return land.addHolding(block, false, kin, year);
    }

    public int use(int block, int kins, int year) {
        if (!land.has(block) || !within(kins, 0, KIN_SETS - 1) || !isYear(year)) {
            return BAD;
        }
        return land.addHolding(block, true, kins, year);
    }

    public int holds(int block, int year, int what) {
        if (!land.has(block) || !isYear(year) || !within(what, 0, 1)) {
            return BAD;
        }
        if (what == 1) {
            return land.usersOf(block, year);
        }
        int owner = land.ownerOf(block, year);
        return owner < 0 ? NONE : owner;
    }

    public int deed(int block, int kin, int buyer, int year) {
        if (!land.has(block) || !isKin(kin) || !within(buyer, 0, BUYERS - 1) || !isYear(year)) {
            return BAD;
        }
        return land.addDeed(block, kin, year);
    }

    public int could(int deed) {
        if (!within(deed, 0, land.deeds - 1)) {
            return BAD;
        }
        return land.rightOfSeller(deed);
    }

    public int twice(int block) {
        if (!land.has(block)) {
            return BAD;
        }
        return land.firstSoldTwice(block);
    }

    public int take(int block, int kin, int year) {
        if (!land.has(block) || !isKin(kin) || !isYear(year)) {
            return BAD;
        }
        return land.addTaking(block, kin, year);
    }

    public int wronged(int taking) {
        if (!within(taking, 0, land.takings - 1)) {
            return BAD;
        }
        return land.wrongedBy(taking);
    }

    public int shares(int block, int kin, int year) {
        if (!land.has(block) || !isKin(kin) || !isYear(year)) {
            return BAD;
        }
        int heads = people.livingFounders(kin, year);
        if (heads == 0) {
            return NO;
        }
        land.sharedKin[block] = kin;
        land.sharedFrom[block] = year;
        return heads;
    }

    public long share(int block, int person, int year) {
        if (!land.has(block) || person != -1 && !people.has(person) || !isYear(year)) {
            return BAD;
        }
        int from = land.sharedFrom[block];
        if (from < 0 || year < from) {
            return NO;
        }
        estate.open(land.sharedKin[block], from);
        for (int y = from; y <= year; y++) {
            estate.pass(y);
        }
        return person == -1 ? estate.lapsed : estate.parts[person];
    }

    public int small(int block, int n) {
        if (!land.has(block) || !within(n, 1, MOST_PIECES)) {
            return BAD;
        }
        int from = land.sharedFrom[block];
        if (from < 0) {
            return NO;
        }
        estate.open(land.sharedKin[block], from);
        for (int year = from; year <= LAST_YEAR; year++) {
            estate.pass(year);
            if (estate.hasLessThanOneOf(n)) {
                return year;
            }
        }
        return NONE;
    }

    // ---- claims

    public int claim(int kin, int weight, int elder, int time, int needed, int asked) {
        boolean good = isKin(kin) && within(weight, 1, MOST_WEIGHT) && people.has(elder)
                && within(time, 1, MOST_TIME) && isFactSet(needed) && within(asked, 1, MOST_ASKED);
        if (!good) {
            return BAD;
        }
        return claims.add(kin, weight, elder, time, needed, asked);
    }

    public int founded(int facts) {
        if (!isFactSet(facts)) {
            return BAD;
        }
        return claims.foundedBy(facts);
    }

    public int falls(int facts, int f) {
        if (!isFactSet(facts) || !within(f, 0, FACTS - 1)) {
            return BAD;
        }
        return claims.foundedBy(facts) & ~claims.foundedBy(FACT_SETS - 1 - (1 << f));
    }

    public int hear(int year, int i) {
        if (!isYear(year) || i < -1) {
            return BAD;
        }
        int lost = hearings.arrangeFrom(year);
        return i == -1 ? claims.allWeights() - lost : hearings.claimAt(i);
    }

    public int left(int claim, int year, boolean back) {
        if (!within(claim, 0, claims.size - 1) || !isYear(year)) {
            return BAD;
        }
        return land.worthLeft(claims.kin[claim], year, back);
    }

    public int cousins(int a, int b) {
        if (!isKin(a) || !isKin(b) || a == b) {
            return BAD;
        }
        return people.ofBoth(a, b);
    }

    public int settled(int kin, int k, int what) {
        if (!isKin(kin) || !within(k, 1, KINS - 1) || !within(what, 0, 1)) {
            return BAD;
        }
        int best = 0;
        int fewest = MANY;
        for (int set = 0; set < KIN_SETS; set++) {
            if (hasBit(set, kin) && Integer.bitCount(set) == k) {
                int cut = people.cousinsCut(set);
                if (cut < fewest) {
                    fewest = cut;
                    best = set;
                }
            }
        }
        return what == 0 ? best : fewest;
    }

    public int settlement(int sum, int ratio) {
        if (!within(sum, 1, MOST_SUM) || !within(ratio, 0, MOST_RATIO)) {
            return BAD;
        }
        return settlements.add(sum, ratio);
    }

    public int topped(int i) {
        if (!within(i, -1, settlements.size - 1)) {
            return BAD;
        }
        return i == -1 ? settlements.costOfAll() : settlements.toppingOf(i);
    }

    public int plan(int coin, int facts, int i) {
        if (!within(coin, 1, MOST_COIN) || !isFactSet(facts) || i < -1) {
            return BAD;
        }
        int wait = payments.arrangeBy(coin, claims.foundedBy(facts));
        return i == -1 ? wait : payments.claimAt(i);
    }

    public int count(int what) {
        switch (what) {
            case 0: return one.items;
            case 1: return other.items;
            case 2: return people.size;
            case 3: return people.sayings;
            case 4: return land.size;
            case 5: return land.holdings;
            case 6: return land.deeds;
            case 7: return land.takings;
            case 8: return claims.size;
            case 9: return settlements.size;
            case 10: return one.text.length;
            case 11: return other.text.length;
            default: return BAD;
        }
    }

    // ---- what the calls share

    private static boolean within(int number, int low, int high) {
        return number >= low && number <= high;
    }

    private static boolean hasBit(int set, int bit) {
        return (set >> bit & 1) == 1;
    }

    private static boolean isTongue(int tongue) {
        return within(tongue, 0, 1);
    }

    private static boolean isWord(int word) {
        return within(word, 0, WORDS - 1);
    }

    private static boolean isVerb(int verb) {
        return within(verb, 0, VERBS - 1);
    }

    private static boolean isThing(int thing) {
        return within(thing, 0, THINGS - 1);
    }

    private static boolean isAct(int act) {
        return within(act, 0, ACTS - 1);
    }

    private static boolean isYear(int year) {
        return within(year, 0, LAST_YEAR);
    }

    private static boolean isFactSet(int facts) {
        return within(facts, 0, FACT_SETS - 1);
    }

    private static boolean isKin(int kin) {
        return within(kin, 0, KINS - 1);
    }

    private Tongue tongueOf(int tongue) {
        return tongue == 0 ? one : other;
    }

    private void learn(int year) {
        one.learn(year);
        other.learn(year);
    }

    private boolean differ(int act, int year, int facts) {
        int verb = act / THINGS;
        int thing = act % THINGS;
        return one.lets(verb, thing, year, facts) != other.lets(verb, thing, year, facts);
    }

    /** A line of a TEXT; of a w line "from" is its YEAR and "set" the VERBS. */
    private static final class Item {
        int letter;
        int word;
        int thing;
        int from;
        int to;
        int set;

        boolean isBook() {
            return letter == 'w';
        }

        void fill(int sign, int[] numbers) {
            letter = sign;
            word = numbers[0];
            if (isBook()) {
                thing = 0;
                from = numbers[1];
                to = LAST_YEAR;
                set = numbers[2];
            } else {
                thing = numbers[1];
                from = numbers[2];
                to = numbers[3];
                set = numbers[4];
            }
        }

        boolean isInBounds() {
            int sets = isBook() ? VERB_SETS : FACT_SETS;
            return isWord(word) && isThing(thing) && isYear(to) && from <= to && set < sets;
        }

        boolean speaksOf(int asked, int year) {
            return !isBook() && thing == asked && within(year, from, to);
        }
    }

    /** The bytes of a TEXT as written, in force or not, and the reading of them. */
    private static final class Text {
        final byte[] bytes = new byte[TEXT_ROOM];
        int length;
        final int[] numbers = new int[RULE_NUMBERS];
        final Item probe = new Item();

        int append(int n, long v) {
            if (length + n > TEXT_ROOM) {
                return FULL;
            }
            for (int i = n - 1; i >= 0; i--) {
                bytes[length] = (byte) (v >> 8 * i);
                length++;
            }
            return length;
        }

        int clear() {
            int was = length;
            length = 0;
            return was;
        }

        int firstFault() {
            int place = 0;
            for (int i = 0; i < TEXT_ROOM && place < length; i++) {
                int behind = read(place, probe);
                if (behind < 0) {
                    return place;
                }
                place = behind;
            }
            return NONE;
        }

        /** Reads the ITEM at a place: the place behind it, or -1 if it is not so. */
        int read(int place, Item into) {
            int letter = signAt(place);
            int wanted = letter == 'w' ? WORD_NUMBERS : letter == 'l' || letter == 'b' ? RULE_NUMBERS : 0;
            int at = place + 1;
            for (int i = 0; i < wanted; i++) {
                int behind = at + figuresAt(at);
                int mark = i == wanted - 1 ? ';' : ',';
                if (behind == at || signAt(behind) != mark) {
                    return -1;
                }
                numbers[i] = numberAt(at, behind);
                at = behind + 1;
            }
            if (wanted == 0) {
                return -1;
            }
            into.fill(letter, numbers);
            return into.isInBounds() ? at : -1;
        }

        /** How many figures stand there; of a longer row the first ones, so that no mark follows. */
        int figuresAt(int place) {
            int figures = 0;
            while (figures < FIGURES && within(signAt(place + figures), '0', '9')) {
                figures++;
            }
            return figures;
        }

        int numberAt(int place, int behind) {
            int number = 0;
            for (int at = place; at < behind; at++) {
                number = 10 * number + signAt(at) - '0';
            }
            return number;
        }

        int signAt(int place) {
            return within(place, 0, length - 1) ? bytes[place] : 0;
        }
    }

    /** A TONGUE: its BOOK, its TEXT and the ITEMS that are in force. */
    private static final class Tongue {
        final int[] toldWord = new int[BOOK_ROOM];
        final int[] toldYear = new int[BOOK_ROOM];
        final int[] toldVerbs = new int[BOOK_ROOM];
        int told;
        final Text text = new Text();
        final Item[] inForce = new Item[ITEM_ROOM];
        int items;
        /** What each WORD means in the YEAR learnt last; doneBy() tries other meanings in it. */
        final int[] meaning = new int[WORDS];

        Tongue() {
            for (int i = 0; i < ITEM_ROOM; i++) {
                inForce[i] = new Item();
            }
        }

        int tell(int word, int year, int verbs) {
            if (told >= BOOK_ROOM) {
                return FULL;
            }
            toldWord[told] = word;
            toldYear[told] = year;
            toldVerbs[told] = verbs;
            told++;
            return told;
        }

        int enact() {
            if (text.firstFault() != NONE) {
                return NO;
            }
            items = 0;
            int place = 0;
            while (items < ITEM_ROOM && place < text.length) {
                place = text.read(place, inForce[items]);
                items++;
            }
            return items;
        }

        int meaningOf(int word, int year) {
            int verbs = 0;
            int latest = 0;
            for (int i = 0; i < told; i++) {
                if (toldWord[i] == word && within(toldYear[i], latest, year)) {
                    latest = toldYear[i];
                    verbs = toldVerbs[i];
                }
            }
            // behind the book, so that of one YEAR the TEXT is ahead
            for (int i = 0; i < items; i++) {
                Item item = inForce[i];
                if (item.isBook() && item.word == word && within(item.from, latest, year)) {
                    latest = item.from;
                    verbs = item.set;
                }
            }
            return verbs;
        }

        void learn(int year) {
            for (int word = 0; word < WORDS; word++) {
                meaning[word] = meaningOf(word, year);
            }
        }

        /** The number of the ITEM that rules, by the meanings learnt; NONE. */
        int ruling(int verb, int thing, int year, int facts) {
            for (int i = items - 1; i >= 0; i--) {
                Item item = inForce[i];
                if (item.speaksOf(thing, year) && hasBit(meaning[item.word], verb) && (item.set & ~facts) == 0) {
                    return i;
                }
            }
            return NONE;
        }

        boolean lets(int verb, int thing, int year, int facts) {
            int ruler = ruling(verb, thing, year, facts);
            return ruler >= 0 && inForce[ruler].letter == 'l';
        }
    }

    /** PERSONS, their KINS, and what they say of one another. */
    private static final class People {
        final int[] born = new int[PERSON_ROOM];
        final int[] dead = new int[PERSON_ROOM];
        final int[] parent = new int[PERSON_ROOM];
        final int[] otherParent = new int[PERSON_ROOM];
        final int[] founds = new int[PERSON_ROOM];
        final int[] kins = new int[PERSON_ROOM];
        int size;
        final int[] sayer = new int[SAYING_ROOM];
        final int[] saidOf = new int[SAYING_ROOM];
        final int[] saidKin = new int[SAYING_ROOM];
        final boolean[] saidSo = new boolean[SAYING_ROOM];
        int sayings;

        boolean has(int person) {
            return within(person, 0, size - 1);
        }

        int add(int year, int p, int q) {
            if (size >= PERSON_ROOM) {
                return FULL;
            }
            born[size] = year;
            dead[size] = NEVER;
            parent[size] = p;
            otherParent[size] = q;
            founds[size] = 0;
            kins[size] = inherited(size);
            size++;
            return size - 1;
        }

        int inherited(int person) {
            int p = parent[person];
            int q = otherParent[person];
            return (has(p) ? kins[p] : 0) | (has(q) ? kins[q] : 0);
        }

        boolean isFounder(int person, int kin) {
            return hasBit(founds[person], kin);
        }

        int addFounder(int person, int kin) {
            founds[person] |= 1 << kin;
            int founders = 0;
            // parents have lower numbers, so one walk reaches all descendants
            for (int i = 0; i < size; i++) {
                kins[i] = founds[i] | inherited(i);
                if (isFounder(i, kin)) {
                    founders++;
                }
            }
            return founders;
        }

        boolean isDead(int person, int year) {
            return dead[person] <= year;
        }

        boolean isLivingFounder(int person, int kin, int year) {
            return isFounder(person, kin) && born[person] <= year && !isDead(person, year);
        }

        int livingFounders(int kin, int year) {
            int living = 0;
            for (int i = 0; i < size; i++) {
                if (isLivingFounder(i, kin, year)) {
                    living++;
                }
            }
            return living;
        }

        boolean isChild(int person, int ofWhom, int year) {
            return (parent[person] == ofWhom || otherParent[person] == ofWhom) && born[person] <= year;
        }

        int children(int ofWhom, int year) {
            int found = 0;
            for (int i = 0; i < size; i++) {
                if (isChild(i, ofWhom, year)) {
                    found++;
                }
            }
            return found;
        }

        int ofBoth(int a, int b) {
            int found = 0;
            for (int i = 0; i < size; i++) {
                if (hasBit(kins[i], a) && hasBit(kins[i], b)) {
                    found++;
                }
            }
            return found;
        }

        /** COUSINS of all pairs of a KIN in the set and one outside: each PERSON is one of its own pairs. */
        int cousinsCut(int set) {
            int cut = 0;
            for (int i = 0; i < size; i++) {
                cut += Integer.bitCount(kins[i] & set) * Integer.bitCount(kins[i] & ~set);
            }
            return cut;
        }

        int addSaying(int by, int ofWhom, int kin, boolean so) {
            if (sayings >= SAYING_ROOM) {
                return FULL;
            }
            sayer[sayings] = by;
            saidOf[sayings] = ofWhom;
            saidKin[sayings] = kin;
            saidSo[sayings] = so;
            sayings++;
            return sayings;
        }

        boolean isSaying(int saying, int person, int kin) {
            return saidOf[saying] == person && saidKin[saying] == kin;
        }

        boolean isSaidToBe(int person, int kin) {
            for (int i = sayings - 1; i >= 0; i--) {
                if (isSaying(i, person, kin)) {
                    return saidSo[i];
                }
            }
            return false;
        }

        int pairsAtOdds(int person, int kin) {
            int heard = 0;
            int yes = 0;
            int no = 0;
            for (int i = sayings - 1; i >= 0; i--) {
                if (isSaying(i, person, kin) && !hasBit(heard, sayer[i])) {
                    heard |= 1 << sayer[i];
                    yes += saidSo[i] ? 1 : 0;
                    no += saidSo[i] ? 0 : 1;
                }
            }
            return yes * no;
        }
    }

    /** BLOCKS, PAPERS and USES of them, DEEDS and TAKINGS. */
    private static final class Land {
        final int[] worth = new int[BLOCK_ROOM];
        final int[] sharedKin = new int[BLOCK_ROOM];
        /** The YEAR of the SHARES told, -1 if there are none. */
        final int[] sharedFrom = new int[BLOCK_ROOM];
        int size;
        final int[] heldBlock = new int[HOLDING_ROOM];
        final boolean[] heldByUse = new boolean[HOLDING_ROOM];
        final int[] holder = new int[HOLDING_ROOM];
        final int[] heldFrom = new int[HOLDING_ROOM];
        int holdings;
        final int[] soldBlock = new int[DEED_ROOM];
        final int[] seller = new int[DEED_ROOM];
        final int[] soldIn = new int[DEED_ROOM];
        int deeds;
        final int[] takenBlock = new int[TAKING_ROOM];
        final int[] taker = new int[TAKING_ROOM];
        final int[] takenIn = new int[TAKING_ROOM];
        int takings;

        boolean has(int block) {
            return within(block, 0, size - 1);
        }

        int addBlock(int value) {
            if (size >= BLOCK_ROOM) {
                return FULL;
            }
            worth[size] = value;
            sharedFrom[size] = -1;
            size++;
            return size - 1;
        }

        int addHolding(int block, boolean byUse, int who, int year) {
            if (holdings >= HOLDING_ROOM) {
                return FULL;
            }
            heldBlock[holdings] = block;
            heldByUse[holdings] = byUse;
            holder[holdings] = who;
            heldFrom[holdings] = year;
            holdings++;
            return holdings;
        }

        int holderIn(int block, boolean byUse, int year, int nobody) {
            int found = nobody;
            int latest = 0;
            for (int i = 0; i < holdings; i++) {
                boolean asked = heldBlock[i] == block && heldByUse[i] == byUse;
                if (asked && within(heldFrom[i], latest, year)) {
                    latest = heldFrom[i];
                    found = holder[i];
                }
            }
            return found;
        }

        /** The KIN of PAPER, -1 if there is none. */
        int ownerOf(int block, int year) {
            return holderIn(block, false, year, -1);
        }

        int usersOf(int block, int year) {
            return holderIn(block, true, year, 0);
        }

        int addDeed(int block, int kin, int year) {
            if (deeds >= DEED_ROOM) {
                return FULL;
            }
            soldBlock[deeds] = block;
            seller[deeds] = kin;
            soldIn[deeds] = year;
            deeds++;
            return deeds - 1;
        }

        int rightOfSeller(int deed) {
            int kin = seller[deed];
            int users = usersOf(soldBlock[deed], soldIn[deed]);
            boolean owns = ownerOf(soldBlock[deed], soldIn[deed]) == kin;
            if (owns && (users & ~(1 << kin)) == 0) {
                return 2;
            }
            return owns || hasBit(users, kin) ? 1 : 0;
        }

        int firstSoldTwice(int block) {
            int first = -1;
            for (int i = 0; i < deeds; i++) {
                if (soldBlock[i] == block) {
                    if (first < 0) {
                        first = i;
                    } else if (seller[i] != seller[first]) {
                        return 100 * first + i;
                    }
                }
            }
            return NONE;
        }

        int addTaking(int block, int kin, int year) {
            if (takings >= TAKING_ROOM) {
                return FULL;
            }
            takenBlock[takings] = block;
            taker[takings] = kin;
            takenIn[takings] = year;
            takings++;
            return takings - 1;
        }

        int wrongedBy(int taking) {
            int block = takenBlock[taking];
            int owner = ownerOf(block, takenIn[taking]);
            int holders = usersOf(block, takenIn[taking]) | (owner < 0 ? 0 : 1 << owner);
            return holders & ~(1 << taker[taking]);
        }

        int wrongedByAll(int block) {
            int kins = 0;
            for (int i = 0; i < takings; i++) {
                if (takenBlock[i] == block) {
                    kins |= wrongedBy(i);
                }
            }
            return kins;
        }

        int worthLeft(int kin, int year, boolean back) {
            int sum = 0;
            for (int block = 0; block < size; block++) {
                int kins = wrongedByAll(block);
                boolean asked = back ? kins == 1 << kin : hasBit(kins, kin);
                if (asked && ownerOf(block, year) < 0) {
                    sum += worth[block];
                }
            }
            return sum;
        }
    }

    /** The parts of one BLOCK as they go from the dead to their heirs. */
    private static final class Estate {
        final People people;
        final long[] parts = new long[PERSON_ROOM];
        long lapsed;
        // Parcels on their way from one dead, chained by heir; alike ones of one heir are kept once,
        // with how often they come, since the ways through many dead grow past counting.
        final int[] firstOf = new int[PERSON_ROOM];
        int[] next = new int[FIRST_PARCELS];
        long[] value = new long[FIRST_PARCELS];
        long[] times = new long[FIRST_PARCELS];
        int parcels;

        Estate(People people) {
            this.people = people;
        }

        void open(int kin, int year) {
            Arrays.fill(parts, 0L);
            lapsed = WHOLE;
            int heads = people.livingFounders(kin, year);
            if (heads == 0) {
                return;
            }
            long part = WHOLE / heads;
            for (int i = 0; i < people.size; i++) {
                if (people.isLivingFounder(i, kin, year)) {
                    parts[i] = part;
                    lapsed -= part;
                }
            }
        }

        void pass(int year) {
            for (int i = 0; i < people.size; i++) {
                if (people.dead[i] == year && parts[i] > 0) {
                    inherit(i, year);
                }
            }
        }

        void inherit(int dead, int year) {
            parcels = 0;
            Arrays.fill(firstOf, -1);
            send(dead, parts[dead], 1);
            parts[dead] = 0;
            // children have higher numbers, so all parcels of a PERSON are there when its turn comes
            for (int person = dead; person < people.size; person++) {
                if (!people.isDead(person, year)) {
                    keep(person);
                } else if (firstOf[person] >= 0) {
                    cut(person, people.children(person, year));
                    handOn(person, year);
                }
            }
        }

        void keep(int person) {
            int at = firstOf[person];
            for (int i = 0; i < parcels && at >= 0; i++) {
                parts[person] += value[at] * times[at];
                at = next[at];
            }
        }

        /** Each parcel of a dead one becomes what one of its children gets of it. */
        void cut(int person, int children) {
            int at = firstOf[person];
            for (int i = 0; i < parcels && at >= 0; i++) {
                long each = children == 0 ? 0 : value[at] / children;
                lapsed += (value[at] - each * children) * times[at];
                value[at] = each;
                at = next[at];
            }
        }

        void handOn(int person, int year) {
            for (int child = person + 1; child < people.size; child++) {
                if (people.isChild(child, person, year)) {
                    sendAll(person, child);
                }
            }
        }

        void sendAll(int person, int child) {
            // sending makes parcels of the child, so the bound is what there was ahead of it
            int known = parcels;
            int at = firstOf[person];
            for (int i = 0; i < known && at >= 0; i++) {
                send(child, value[at], times[at]);
                at = next[at];
            }
        }

        void send(int person, long part, long often) {
            int at = firstOf[person];
            for (int i = 0; i < parcels && at >= 0; i++) {
                if (value[at] == part) {
                    times[at] += often;
                    return;
                }
                at = next[at];
            }
            makeRoom();
            if (parcels < next.length) {
                next[parcels] = firstOf[person];
                value[parcels] = part;
                times[parcels] = often;
                firstOf[person] = parcels;
                parcels++;
            }
        }

        void makeRoom() {
            if (parcels == next.length && parcels < MOST_PARCELS) {
                next = Arrays.copyOf(next, 2 * parcels);
                value = Arrays.copyOf(value, 2 * parcels);
                times = Arrays.copyOf(times, 2 * parcels);
            }
        }

        /** Whether some one has some, but less than one of n alike parts; the dead have none left. */
        boolean hasLessThanOneOf(int n) {
            for (int i = 0; i < people.size; i++) {
                if (parts[i] > 0 && parts[i] * n < WHOLE) {
                    return true;
                }
            }
            return false;
        }
    }

    /** CLAIMS as told. */
    private static final class Claims {
        final int[] kin = new int[CLAIM_ROOM];
        final int[] weight = new int[CLAIM_ROOM];
        final int[] elder = new int[CLAIM_ROOM];
        final int[] time = new int[CLAIM_ROOM];
        final int[] needed = new int[CLAIM_ROOM];
        final int[] asked = new int[CLAIM_ROOM];
        int size;

        int add(int whose, int heavy, int who, int years, int facts, int coins) {
            if (size >= CLAIM_ROOM) {
                return FULL;
            }
            kin[size] = whose;
            weight[size] = heavy;
            elder[size] = who;
            time[size] = years;
            needed[size] = facts;
            asked[size] = coins;
            size++;
            return size - 1;
        }

        int everyOne() {
            return (1 << size) - 1;
        }

        int foundedBy(int facts) {
            int set = 0;
            for (int i = 0; i < size; i++) {
                if ((needed[i] & ~facts) == 0) {
                    set |= 1 << i;
                }
            }
            return set;
        }

        int allWeights() {
            int sum = 0;
            for (int i = 0; i < size; i++) {
                sum += weight[i];
            }
            return sum;
        }
    }

    /**
     * The cheapest order of a set of CLAIMS, one behind the other. What one costs hangs only on how
     * long all up to it are together, so the best rest hangs only on the set that is through.
     */
    private abstract static class Order {
        final Claims claims;
        private final int[] rest = new int[1 << CLAIM_ROOM];
        private int all;

        Order(Claims claims) {
            this.claims = claims;
        }

        abstract int lengthOf(int claim);

        abstract int priceOf(int claim, int upTo);

        int arrange(int set) {
            all = set & claims.everyOne();
            for (int through = all; through >= 0; through--) {
                if ((through & ~all) == 0) {
                    rest[through] = cheapestRest(through);
                }
            }
            return rest[0];
        }

        /** The claim at a place of the order arranged last; NONE. */
        int claimAt(int place) {
            int through = 0;
            for (int i = 0; i < claims.size; i++) {
                int claim = nextOf(through);
                if (claim < 0 || i == place) {
                    return claim;
                }
                through |= 1 << claim;
            }
            return NONE;
        }

        private int cheapestRest(int through) {
            int cheapest = through == all ? 0 : MANY;
            int length = lengthOfAll(through);
            for (int claim = 0; claim < claims.size; claim++) {
                if (hasBit(all & ~through, claim)) {
                    cheapest = Math.min(cheapest, restWith(claim, through, length));
                }
            }
            return cheapest;
        }

        private int nextOf(int through) {
            int length = lengthOfAll(through);
            for (int claim = 0; claim < claims.size; claim++) {
                if (hasBit(all & ~through, claim) && restWith(claim, through, length) == rest[through]) {
                    return claim;
                }
            }
            return NONE;
        }

        private int restWith(int claim, int through, int length) {
            return priceOf(claim, length + lengthOf(claim)) + rest[through | 1 << claim];
        }

        private int lengthOfAll(int set) {
            int length = 0;
            for (int claim = 0; claim < claims.size; claim++) {
                if (hasBit(set, claim)) {
                    length += lengthOf(claim);
                }
            }
            return length;
        }
    }

    /** HEARINGS: the price is the WEIGHT that does not count. */
    private static final class Hearings extends Order {
        private final People people;
        private int from;

        Hearings(Claims claims, People people) {
            super(claims);
            this.people = people;
        }

        int arrangeFrom(int year) {
            from = year;
            return arrange(claims.everyOne());
        }

        int lengthOf(int claim) {
            return claims.time[claim];
        }

        int priceOf(int claim, int upTo) {
            return people.isDead(claims.elder[claim], from + upTo - 1) ? claims.weight[claim] : 0;
        }
    }

    /** A PLAN: the price is the WAIT. */
    private static final class Payments extends Order {
        private int coin = 1;

        Payments(Claims claims) {
            super(claims);
        }

        int arrangeBy(int eachYear, int set) {
            coin = Math.max(1, eachYear);
            return arrange(set);
        }

        int lengthOf(int claim) {
            return claims.asked[claim];
        }

        int priceOf(int claim, int upTo) {
            return claims.weight[claim] * ((upTo - 1) / coin);
        }
    }

    /** SETTLEMENTS as told. */
    private static final class Settlements {
        final int[] sum = new int[SETTLEMENT_ROOM];
        final int[] ratio = new int[SETTLEMENT_ROOM];
        int size;

        int add(int coins, int hundredths) {
            if (size >= SETTLEMENT_ROOM) {
                return FULL;
            }
            sum[size] = coins;
            ratio[size] = hundredths;
            size++;
            return size - 1;
        }

        int toppingOf(int which) {
            int topping = 0;
            for (int later = which + 1; later < size; later++) {
                topping += sum[later] * ratio[which] / 100;
            }
            return topping;
        }

        int costOfAll() {
            int cost = 0;
            for (int i = 0; i < size; i++) {
                cost += sum[i] + toppingOf(i);
            }
            return cost;
        }
    }
}
