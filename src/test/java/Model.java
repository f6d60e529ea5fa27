import java.util.ArrayList;
import java.util.LinkedHashMap;
import java.util.List;
import java.util.Map;
import java.util.TreeSet;
import java.util.regex.Matcher;
import java.util.regex.Pattern;

/**
 * The document said again, as near to its words as can be and without care for speed: texts by
 * patterns, heirs by recursion, orders by trying all. ModelTest holds TwoTongues against it.
 */
public final class Model {
    private static final int BAD = -1, NO = -2, FULL = -3, NONE = -4;
    private static final long WHOLE = 1_000_000_000_000L;
    private static final String N = "([0-9]{1,3})";
    private static final Pattern ITEM = Pattern.compile(
        "([lb])" + N + "," + N + "," + N + "," + N + "," + N + ";|w" + N + "," + N + "," + N + ";");

    record Told(int word, int year, int verbs) { }
    record Rule(int number, boolean lets, int word, int thing, int from, int to, int facts) { }
    record Saying(int by, int of, int kin, boolean is) { }
    record Holding(int block, boolean use, int who, int year) { }
    record Deed(int block, int kin, int year) { }
    record Shares(int kin, int year) { }
    record Claim(int kin, int weight, int elder, int time, int needed, int asked) { }
    record Settlement(int sum, int ratio) { }

    static final class Human {
        int born;
        Integer dead;
        int p;
        int q;
        final TreeSet<Integer> founds = new TreeSet<>();
    }

    static final class Force {
        final List<Told> book = new ArrayList<>();
        final List<Rule> rules = new ArrayList<>();
        int items;
    }

    private final List<List<Told>> books = List.of(new ArrayList<>(), new ArrayList<>());
    private final String[] texts = {"", ""};
    private final Force[] forces = {new Force(), new Force()};
    private final List<Human> humans = new ArrayList<>();
    private final List<Saying> sayings = new ArrayList<>();
    private final List<Integer> worths = new ArrayList<>();
    private final List<Holding> holdings = new ArrayList<>();
    private final List<Deed> deeds = new ArrayList<>();
    private final List<Deed> takings = new ArrayList<>();
    private final Map<Integer, Shares> shared = new LinkedHashMap<>();
    private final List<Claim> claims = new ArrayList<>();
    private final List<Settlement> settlements = new ArrayList<>();

    private static boolean out(int x, int low, int high) {
        return x < low || x > high;
    }

    // ---- texts

    public int book(int tongue, int word, int year, int verbs) {
        if (out(tongue, 0, 1) || out(word, 0, 7) || out(year, 0, 200) || out(verbs, 0, 63)) return BAD;
        if (books.get(tongue).size() == 20) return FULL;
        books.get(tongue).add(new Told(word, year, verbs));
        return books.get(tongue).size();
    }

    public int write(int tongue, int n, long v) {
        if (out(tongue, 0, 1) || out(n, 1, 8)) return BAD;
        if (texts[tongue].length() + n > 240) return FULL;
        StringBuilder bytes = new StringBuilder();
        for (int i = 0; i < n; i++) {
            bytes.insert(0, (char) (v & 255));
            v >>>= 8;
        }
        texts[tongue] += bytes;
        return texts[tongue].length();
    }

    public int wipe(int tongue) {
        if (out(tongue, 0, 1)) return BAD;
        int was = texts[tongue].length();
        texts[tongue] = "";
        return was;
    }

    /** Reads the text; the place of the fault, or NONE and what is in force then. */
    private static int read(String text, Force into) {
        Matcher m = ITEM.matcher(text);
        int at = 0;
        while (at < text.length()) {
            m.region(at, text.length());
            if (!m.lookingAt()) return at;
            if (m.group(1) == null) {
                Told told = new Told(number(m, 7), number(m, 8), number(m, 9));
                if (told.word > 7 || told.year > 200 || told.verbs > 63) return at;
                into.book.add(told);
            } else {
                Rule r = new Rule(into.items, m.group(1).equals("l"), number(m, 2), number(m, 3), number(m, 4), number(m, 5), number(m, 6));
                if (r.word > 7 || r.thing > 5 || r.from > 200 || r.to > 200 || r.from > r.to || r.facts > 255) return at;
                into.rules.add(r);
            }
            into.items++;
            at = m.end();
        }
        return NONE;
    }

    private static int number(Matcher m, int group) {
        return Integer.parseInt(m.group(group));
    }

    public int fault(int tongue) {
        if (out(tongue, 0, 1)) return BAD;
        return read(texts[tongue], new Force());
    }

    public int force(int tongue) {
        if (out(tongue, 0, 1)) return BAD;
        Force f = new Force();
        if (read(texts[tongue], f) != NONE) return NO;
        forces[tongue] = f;
        return f.items;
    }

    public int means(int tongue, int word, int year) {
        if (out(tongue, 0, 1) || out(word, 0, 7) || out(year, 0, 200)) return BAD;
        for (int y = year; y >= 0; y--) {
            for (List<Told> source : List.of(forces[tongue].book, books.get(tongue))) {
                for (int i = source.size() - 1; i >= 0; i--) {
                    Told t = source.get(i);
                    if (t.word == word && t.year == y) return t.verbs;
                }
            }
        }
        return 0;
    }

    private Rule ruling(int tongue, int verb, int thing, int year, int facts, int changed, int to) {
        Rule last = null;
        for (Rule r : forces[tongue].rules) {
            int verbs = r.word == changed ? to : means(tongue, r.word, year);
            boolean hit = r.thing == thing && r.from <= year && year <= r.to && (verbs & 1 << verb) != 0 && (r.facts & facts) == r.facts;
            if (hit) last = r;
        }
        return last;
    }

    private boolean lets(int tongue, int act, int year, int facts, int changed, int to) {
        Rule r = ruling(tongue, act / 6, act % 6, year, facts, changed, to);
        return r != null && r.lets;
    }

    public int let(int tongue, int verb, int thing, int year, int facts) {
        if (out(tongue, 0, 1) || out(verb, 0, 5) || out(thing, 0, 5) || out(year, 0, 200) || out(facts, 0, 255)) return BAD;
        return lets(tongue, 6 * verb + thing, year, facts, -1, 0) ? 1 : 0;
    }

    public int why(int tongue, int verb, int thing, int year, int facts) {
        if (out(tongue, 0, 1) || out(verb, 0, 5) || out(thing, 0, 5) || out(year, 0, 200) || out(facts, 0, 255)) return BAD;
        Rule r = ruling(tongue, verb, thing, year, facts, -1, 0);
        return r == null ? NONE : r.number;
    }

    private boolean apart(int act, int year, int facts) {
        return lets(0, act, year, facts, -1, 0) != lets(1, act, year, facts, -1, 0);
    }

    public int unlike(int year, int facts, int i) {
        if (out(year, 0, 200) || out(facts, 0, 255) || i < -1) return BAD;
        List<Integer> acts = new ArrayList<>();
        for (int act = 0; act < 36; act++) if (apart(act, year, facts)) acts.add(act);
        return i == -1 ? acts.size() : i < acts.size() ? acts.get(i) : NONE;
    }

    public int least(int act, int year) {
        if (out(act, 0, 35) || out(year, 0, 200)) return BAD;
        for (int n = 0; n <= 8; n++) {
            for (int facts = 0; facts < 256; facts++) {
                if (Integer.bitCount(facts) == n && apart(act, year, facts)) return facts;
            }
        }
        return NONE;
    }

    public int doneBy(int act, int year, int facts) {
        if (out(act, 0, 35) || out(year, 0, 200) || out(facts, 0, 255)) return BAD;
        if (!apart(act, year, facts)) return NO;
        int words = 0;
        for (int w = 0; w < 8; w++) {
            if (lets(0, act, year, facts, w, means(1, w, year)) == lets(1, act, year, facts, -1, 0)) words += 1 << w;
        }
        return words;
    }

    // ---- persons

    private boolean noPerson(int p) {
        return out(p, 0, humans.size() - 1);
    }

    public int person(int born, int p, int q) {
        if (out(born, 0, 200)) return BAD;
        if (!(p == -1 && q == -1) && (noPerson(p) || noPerson(q) || p == q)) return BAD;
        if (humans.size() == 30) return FULL;
        Human h = new Human();
        h.born = born;
        h.p = p;
        h.q = q;
        humans.add(h);
        return humans.size() - 1;
    }

    public int die(int person, int year) {
        if (noPerson(person) || out(year, 0, 200)) return BAD;
        Human h = humans.get(person);
        if (h.dead != null || year < h.born) return NO;
        h.dead = year;
        return 0;
    }

    public int founder(int person, int kin) {
        if (noPerson(person) || out(kin, 0, 9)) return BAD;
        if (!humans.get(person).founds.add(kin)) return NO;
        return (int) humans.stream().filter(h -> h.founds.contains(kin)).count();
    }

    public int say(int by, int of, int kin, boolean is) {
        if (noPerson(by) || noPerson(of) || by == of || out(kin, 0, 9)) return BAD;
        if (sayings.size() == 20) return FULL;
        sayings.add(new Saying(by, of, kin, is));
        return sayings.size();
    }

    private boolean isOf(int person, int kin) {
        if (person < 0) return false;
        Human h = humans.get(person);
        return h.founds.contains(kin) || isOf(h.p, kin) || isOf(h.q, kin);
    }

    public int of(int person, int kin) {
        if (noPerson(person) || out(kin, 0, 9)) return BAD;
        if (isOf(person, kin)) return 2;
        boolean may = false;
        for (Saying s : sayings) if (s.of == person && s.kin == kin) may = s.is;
        return may ? 1 : 0;
    }

    public int odds(int person, int kin) {
        if (noPerson(person) || out(kin, 0, 9)) return BAD;
        Map<Integer, Boolean> latest = new LinkedHashMap<>();
        for (Saying s : sayings) if (s.of == person && s.kin == kin) latest.put(s.by, s.is);
        int pairs = 0;
        for (int a : latest.keySet()) {
            for (int b : latest.keySet()) {
                if (a < b && !latest.get(a).equals(latest.get(b))) pairs++;
            }
        }
        return pairs;
    }

    // ---- blocks

    private boolean noBlock(int b) {
        return out(b, 0, worths.size() - 1);
    }

    public int block(int worth) {
        if (out(worth, 1, 1000000)) return BAD;
        if (worths.size() == 12) return FULL;
        worths.add(worth);
        return worths.size() - 1;
    }

    public int paper(int block, int kin, int year) {
        if (noBlock(block) || out(kin, -1, 9) || out(year, 0, 200)) return BAD;
        return hold(new Holding(block, false, kin, year));
    }

    public int use(int block, int kins, int year) {
        if (noBlock(block) || out(kins, 0, 1023) || out(year, 0, 200)) return BAD;
        return hold(new Holding(block, true, kins, year));
    }

    private int hold(Holding h) {
        if (holdings.size() == 60) return FULL;
        holdings.add(h);
        return holdings.size();
    }

    private Integer held(int block, boolean use, int year) {
        for (int y = year; y >= 0; y--) {
            Integer who = null;
            for (Holding h : holdings) if (h.block == block && h.use == use && h.year == y) who = h.who;
            if (who != null) return who;
        }
        return null;
    }

    private TreeSet<Integer> users(int block, int year) {
        TreeSet<Integer> kins = new TreeSet<>();
        Integer bits = held(block, true, year);
        for (int k = 0; k < 10; k++) if (bits != null && (bits >> k & 1) == 1) kins.add(k);
        return kins;
    }

    private int paperOf(int block, int year) {
        Integer kin = held(block, false, year);
        return kin == null || kin == -1 ? NONE : kin;
    }

    public int holds(int block, int year, int what) {
        if (noBlock(block) || out(year, 0, 200) || out(what, 0, 1)) return BAD;
        return what == 0 ? paperOf(block, year) : users(block, year).stream().mapToInt(k -> 1 << k).sum();
    }

    public int deed(int block, int kin, int buyer, int year) {
        if (noBlock(block) || out(kin, 0, 9) || out(buyer, 0, 5) || out(year, 0, 200)) return BAD;
        if (deeds.size() == 20) return FULL;
        deeds.add(new Deed(block, kin, year));
        return deeds.size() - 1;
    }

    public int could(int deed) {
        if (out(deed, 0, deeds.size() - 1)) return BAD;
        Deed d = deeds.get(deed);
        boolean own = paperOf(d.block, d.year) == d.kin;
        TreeSet<Integer> users = users(d.block, d.year);
        if (own && (users.isEmpty() || users.size() == 1 && users.contains(d.kin))) return 2;
        return own || users.contains(d.kin) ? 1 : 0;
    }

    public int twice(int block) {
        if (noBlock(block)) return BAD;
        for (int a = 0; a < deeds.size(); a++) {
            for (int b = a + 1; b < deeds.size(); b++) {
                Deed x = deeds.get(a);
                Deed y = deeds.get(b);
                if (x.block == block && y.block == block && x.kin != y.kin) return 100 * a + b;
            }
        }
        return NONE;
    }

    public int take(int block, int kin, int year) {
        if (noBlock(block) || out(kin, 0, 9) || out(year, 0, 200)) return BAD;
        if (takings.size() == 12) return FULL;
        takings.add(new Deed(block, kin, year));
        return takings.size() - 1;
    }

    private TreeSet<Integer> wrongs(Deed t) {
        TreeSet<Integer> kins = users(t.block, t.year);
        if (paperOf(t.block, t.year) >= 0) kins.add(paperOf(t.block, t.year));
        kins.remove(t.kin);
        return kins;
    }

    public int wronged(int taking) {
        if (out(taking, 0, takings.size() - 1)) return BAD;
        return wrongs(takings.get(taking)).stream().mapToInt(k -> 1 << k).sum();
    }

    private boolean dead(int person, int year) {
        Integer d = humans.get(person).dead;
        return d != null && d <= year;
    }

    private List<Integer> livingFounders(int kin, int year) {
        List<Integer> found = new ArrayList<>();
        for (int i = 0; i < humans.size(); i++) {
            Human h = humans.get(i);
            if (h.founds.contains(kin) && h.born <= year && !dead(i, year)) found.add(i);
        }
        return found;
    }

    public int shares(int block, int kin, int year) {
        if (noBlock(block) || out(kin, 0, 9) || out(year, 0, 200)) return BAD;
        List<Integer> found = livingFounders(kin, year);
        if (found.isEmpty()) return NO;
        shared.put(block, new Shares(kin, year));
        return found.size();
    }

    /** Parts of each person by a year; the last place is what lapsed. */
    private long[] parts(Shares s, int until) {
        long[] parts = new long[31];
        List<Integer> found = livingFounders(s.kin, s.year);
        for (int f : found) parts[f] = WHOLE / found.size();
        parts[30] = found.isEmpty() ? WHOLE : WHOLE % found.size();
        for (int y = s.year; y <= until; y++) {
            for (int i = 0; i < humans.size(); i++) {
                if (humans.get(i).dead != null && humans.get(i).dead == y) {
                    long own = parts[i];
                    parts[i] = 0;
                    handOn(i, own, y, parts);
                }
            }
        }
        return parts;
    }

    private void handOn(int who, long part, int year, long[] parts) {
        List<Integer> children = new ArrayList<>();
        for (int i = 0; i < humans.size(); i++) {
            Human h = humans.get(i);
            if ((h.p == who || h.q == who) && h.born <= year) children.add(i);
        }
        long given = 0;
        for (int c : children) {
            long each = part / children.size();
            given += each;
            if (dead(c, year)) handOn(c, each, year, parts);
            else parts[c] += each;
        }
        parts[30] += part - given;
    }

    public long share(int block, int person, int year) {
        if (noBlock(block) || person != -1 && noPerson(person) || out(year, 0, 200)) return BAD;
        Shares s = shared.get(block);
        if (s == null || year < s.year) return NO;
        return parts(s, year)[person == -1 ? 30 : person];
    }

    public int small(int block, int n) {
        if (noBlock(block) || out(n, 1, 1000000)) return BAD;
        Shares s = shared.get(block);
        if (s == null) return NO;
        for (int y = s.year; y <= 200; y++) {
            long[] parts = parts(s, y);
            for (int i = 0; i < humans.size(); i++) {
                if (!dead(i, y) && parts[i] > 0 && parts[i] * n < WHOLE) return y;
            }
        }
        return NONE;
    }

    // ---- claims

    public int claim(int kin, int weight, int elder, int time, int needed, int asked) {
        if (out(kin, 0, 9) || out(weight, 1, 100) || noPerson(elder) || out(time, 1, 5) || out(needed, 0, 255) || out(asked, 1, 1000)) return BAD;
        if (claims.size() == 9) return FULL;
        claims.add(new Claim(kin, weight, elder, time, needed, asked));
        return claims.size() - 1;
    }

    private List<Integer> foundedOnes(int facts) {
        List<Integer> found = new ArrayList<>();
        for (int i = 0; i < claims.size(); i++) if ((claims.get(i).needed & facts) == claims.get(i).needed) found.add(i);
        return found;
    }

    public int founded(int facts) {
        if (out(facts, 0, 255)) return BAD;
        return foundedOnes(facts).stream().mapToInt(c -> 1 << c).sum();
    }

    public int falls(int facts, int f) {
        if (out(facts, 0, 255) || out(f, 0, 7)) return BAD;
        return foundedOnes(facts).stream().filter(c -> (claims.get(c).needed >> f & 1) == 1).mapToInt(c -> 1 << c).sum();
    }

    /** Tries all orders, the lower claims first; keeps the first of the best. */
    private abstract class Trial {
        int best = Integer.MIN_VALUE;
        List<Integer> order = List.of();

        abstract int worth(List<Integer> order);

        void tryAll(List<Integer> ahead, List<Integer> open) {
            if (open.isEmpty()) {
                int w = worth(ahead);
                if (w > best) {
                    best = w;
                    order = new ArrayList<>(ahead);
                }
            }
            for (int i = 0; i < open.size(); i++) {
                List<Integer> rest = new ArrayList<>(open);
                ahead.add(rest.remove(i));
                tryAll(ahead, rest);
                ahead.remove(ahead.size() - 1);
            }
        }

        int answer(List<Integer> of, int i, int sign) {
            tryAll(new ArrayList<>(), of);
            return i == -1 ? sign * best : i < order.size() ? order.get(i) : NONE;
        }
    }

    public int hear(int year, int i) {
        if (out(year, 0, 200) || i < -1) return BAD;
        Trial t = new Trial() {
            int worth(List<Integer> order) {
                int at = year;
                int sum = 0;
                for (int c : order) {
                    int last = at + claims.get(c).time - 1;
                    if (!dead(claims.get(c).elder, last)) sum += claims.get(c).weight;
                    at = last + 1;
                }
                return sum;
            }
        };
        return t.answer(foundedOnes(255), i, 1);
    }

    public int left(int claim, int year, boolean back) {
        if (out(claim, 0, claims.size() - 1) || out(year, 0, 200)) return BAD;
        int kin = claims.get(claim).kin;
        int sum = 0;
        for (int b = 0; b < worths.size(); b++) {
            boolean mine = false;
            boolean others = false;
            for (Deed t : takings) {
                if (t.block != b) continue;
                for (int k : wrongs(t)) {
                    mine |= k == kin;
                    others |= k != kin;
                }
            }
            if (mine && paperOf(b, year) == NONE && !(back && others)) sum += worths.get(b);
        }
        return sum;
    }

    public int cousins(int a, int b) {
        if (out(a, 0, 9) || out(b, 0, 9) || a == b) return BAD;
        int n = 0;
        for (int i = 0; i < humans.size(); i++) if (isOf(i, a) && isOf(i, b)) n++;
        return n;
    }

    public int settled(int kin, int k, int what) {
        if (out(kin, 0, 9) || out(k, 1, 9) || out(what, 0, 1)) return BAD;
        int[][] pairs = new int[10][10];
        for (int a = 0; a < 10; a++) for (int b = 0; b < 10; b++) pairs[a][b] = a == b ? 0 : cousins(a, b);
        int best = -1;
        int fewest = Integer.MAX_VALUE;
        for (int set = 0; set < 1024; set++) {
            if ((set >> kin & 1) == 0 || Integer.bitCount(set) != k) continue;
            int cut = 0;
            for (int a = 0; a < 10; a++) {
                for (int b = 0; b < 10; b++) if ((set >> a & 1) == 1 && (set >> b & 1) == 0) cut += pairs[a][b];
            }
            if (cut < fewest) {
                fewest = cut;
                best = set;
            }
        }
        return what == 0 ? best : fewest;
    }

    public int settlement(int sum, int ratio) {
        if (out(sum, 1, 100000) || out(ratio, 0, 50)) return BAD;
        if (settlements.size() == 8) return FULL;
        settlements.add(new Settlement(sum, ratio));
        return settlements.size() - 1;
    }

    public int topped(int i) {
        if (out(i, -1, settlements.size() - 1)) return BAD;
        int answer = 0;
        for (int a = 0; a < settlements.size(); a++) {
            if (i == -1) answer += settlements.get(a).sum;
            for (int b = a + 1; b < settlements.size(); b++) {
                if (i == -1 || i == a) answer += settlements.get(b).sum * settlements.get(a).ratio / 100;
            }
        }
        return answer;
    }

    public int plan(int coin, int facts, int i) {
        if (out(coin, 1, 1000) || out(facts, 0, 255) || i < -1) return BAD;
        Trial t = new Trial() {
            int worth(List<Integer> order) {
                int year = 0;
                int purse = coin;
                int wait = 0;
                for (int c : order) {
                    while (purse < claims.get(c).asked) {
                        year++;
                        purse += coin;
                    }
                    purse -= claims.get(c).asked;
                    wait += claims.get(c).weight * year;
                }
                return -wait;
            }
        };
        return t.answer(foundedOnes(facts), i, -1);
    }

    public int count(int what) {
        int[] counts = {forces[0].items, forces[1].items, humans.size(), sayings.size(), worths.size(), holdings.size(), deeds.size(),
            takings.size(), claims.size(), settlements.size(), texts[0].length(), texts[1].length()};
        return out(what, 0, 11) ? BAD : counts[what];
    }
}
