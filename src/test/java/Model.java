import java.lang.reflect.Array;
import java.util.ArrayList;
import java.util.Collections;
import java.util.Comparator;
import java.util.HashMap;
import java.util.List;
import java.util.Map;
import java.util.TreeSet;
import java.util.function.Predicate;
import java.util.regex.Matcher;
import java.util.regex.Pattern;

/**
 * The document once more, written from its words alone and without care for speed: sets for NEIGHBOURS, a regular
 * expression for a STREET, Java's own classes for the KINDS, Java's own arrays for TAPES.
 */
final class Model {
    static final int NONE = -1, BAD = -2, STATE = -3, FULL = -4, NOWHERE = -5;
    static final long NO = Long.MIN_VALUE;

    record Facts(int p, int s, int k, int h, int f, int m) { }

    record Clause(char word, int n, Predicate<Facts> holds) { }

    record Weights(int wish, int tooMuch, int cost) { }

    /** How all is at one time; nothing in it changes. */
    record World(int n, int shape, List<Person> people, List<Integer> homes, int moves, List<Clause> street, Integer wishForAll) {
        World with(int p, Integer home) {
            List<Integer> others = new ArrayList<>(homes);
            others.set(p, home);
            return new World(n, shape, people, others, moves, street, wishForAll);
        }

        World livingAs(List<Integer> row) {
            return new World(n, shape, people, row, moves, street, wishForAll);
        }

        World behind(int gone) {
            return new World(n, shape, people, homes, gone, street, wishForAll);
        }

        World wishing(Integer wish) {
            return new World(n, shape, people, homes, moves, street, wish);
        }

        TreeSet<Integer> neighbours(int h) {
            TreeSet<Integer> all = new TreeSet<>();
            for (int d = -2; d <= 2; d++) {
                int other = shape == 0 ? Math.floorMod(h + d, n) : h + d;
                if (shape < 2 && other >= 0 && other < n) {
                    all.add(other);
                }
            }
            for (int other = 0; shape == 2 && other < n; other++) {
                if (Math.abs(other / 4 - h / 4) < 2 && Math.abs(other % 4 - h % 4) < 2) {
                    all.add(other);
                }
            }
            all.remove(h);
            return all;
        }

        List<Integer> around(int p, int h) {
            List<Integer> all = new ArrayList<>();
            for (int q = 0; q < people.size(); q++) {
                if (q != p && homes.get(q) != null && neighbours(h).contains(homes.get(q))) {
                    all.add(q);
                }
            }
            return all;
        }

        Weights weights(int p, int h) {
            Person one = people.get(p);
            Facts facts = new Facts(p, one.sort, one.kind(), h, around(p, h).size(), moves % 60);
            int wish = 0, cost = 0, tooMuch = 100;
            boolean anyWish = false;
            for (Clause c : street) {
                anyWish |= c.word == 'w';
                if (c.holds.test(facts)) {
                    wish += c.word == 'w' ? c.n : 0;
                    cost += c.word == 'd' ? c.n : 0;
                    tooMuch = c.word == 'm' ? Math.min(tooMuch, c.n) : tooMuch;
                }
            }
            wish = !anyWish ? 33 : Math.min(100, wish);
            return new Weights(wishForAll != null ? wishForAll : wish, tooMuch, cost);
        }

        boolean content(int p, int h) {
            List<Integer> around = around(p, h);
            long same = around.stream().filter(q -> people.get(q).sort == people.get(p).sort).count();
            Weights w = weights(p, h);
            return around.isEmpty() || 100 * same >= w.wish * around.size() && 100 * same <= w.tooMuch * around.size();
        }

        boolean content(int p) {
            return content(p, homes.get(p));
        }

        boolean allContent() {
            for (int p = 0; p < people.size(); p++) {
                if (!content(p)) {
                    return false;
                }
            }
            return true;
        }

        int happy() {
            int bits = 0;
            for (int p = 0; p < people.size(); p++) {
                bits += content(p) ? 1 << p : 0;
            }
            return bits;
        }

        List<Integer> free() {
            List<Integer> all = new ArrayList<>();
            for (int h = 0; h < n; h++) {
                if (!homes.contains(h)) {
                    all.add(h);
                }
            }
            return all;
        }

        int pairs(boolean like) {
            int pairs = 0;
            for (int p = 0; p < people.size(); p++) {
                for (int q : around(p, homes.get(p))) {
                    pairs += !like || people.get(p).sort == people.get(q).sort ? 1 : 0;
                }
            }
            return pairs / 2;
        }

        int goesTo(int p) {
            int own = homes.get(p);
            int v = people.get(p).v;
            List<Integer> good = new ArrayList<>(free());
            good.removeIf(h -> !content(p, h));
            switch (people.get(p).kind()) {
                case 0:
                    return good.stream().min(Comparator.naturalOrder()).orElse(NOWHERE);
                case 4:
                    good.removeIf(h -> weights(p, h).cost > 10 * v);
                case 1:
                    return good.stream().min(Comparator.comparing((Integer h) -> Math.abs(h - own)).thenComparing(h -> h)).orElse(NOWHERE);
                case 5:
                    if (moves % (v + 2) == 0) {
                        return NOWHERE;
                    }
                case 2:
                    return good.stream().min(Comparator.comparing(h -> Math.floorMod(h - own, n))).orElse(NOWHERE);
                case 6:
                    if (v < n && free().contains(v)) {
                        return v;
                    }
                default:
                    for (int q = 0; q < people.size(); q++) {
                        World changed = with(p, homes.get(q)).with(q, own);
                        if (people.get(q).sort != people.get(p).sort && changed.content(p) && changed.content(q)) {
                            return homes.get(q);
                        }
                    }
                    return good.stream().min(Comparator.naturalOrder()).orElse(NOWHERE);
            }
        }

        int goer() {
            for (int p = 0; p < people.size(); p++) {
                if (!content(p) && goesTo(p) != NOWHERE) {
                    return p;
                }
            }
            return NOWHERE;
        }

        int told() {
            int p = goer();
            return p == NOWHERE ? NOWHERE : 10 * p + goesTo(p);
        }

        /** How all is behind a MOVE; null, if nobody moves. */
        World next() {
            int p = goer();
            if (p == NOWHERE) {
                return null;
            }
            int to = goesTo(p);
            int q = homes.indexOf(to);
            World then = q < 0 ? this : with(q, homes.get(p));
            return then.with(p, to).behind(moves + 1);
        }

        World behindRun(int most) {
            World then = this;
            for (int i = 0; i < most; i++) {
                World next = then.next();
                if (next == null) {
                    return then;
                }
                then = next;
            }
            return then;
        }

        List<List<Integer>> ways() {
            List<List<Integer>> rows = new ArrayList<>();
            rows.add(new ArrayList<>());
            for (int p = 0; p < people.size(); p++) {
                List<List<Integer>> longer = new ArrayList<>();
                for (List<Integer> row : rows) {
                    for (int h = 0; h < n; h++) {
                        if (!row.contains(h)) {
                            List<Integer> more = new ArrayList<>(row);
                            more.add(h);
                            longer.add(more);
                        }
                    }
                }
                rows = longer;
            }
            return rows;
        }
    }

    // ---- the KINDS, as the document writes their bodies

    static List<Integer> bodies = new ArrayList<>();

    static class Person {
        int v, sort, i;

        int kind() { return 0; }
        int looks(int x) { bodies.add(10); return x + i; }
        int goes(int x) { bodies.add(11); return looks(x) - v; }
        int tells(int x) { bodies.add(12); return goes(x) * 2; }
    }

    static class Near extends Person {
        @Override int kind() { return 1; }
        @Override int goes(int x) { bodies.add(20); return super.goes(x) ^ 6; }
    }

    static class Next extends Person {
        @Override int kind() { return 2; }
        @Override int looks(int x) { bodies.add(30); return super.looks(x * 3); }
    }

    static class Swap extends Person {
        @Override int kind() { return 3; }
        @Override int tells(int x) { bodies.add(40); return super.tells(x) + goes(1); }
    }

    static class Price extends Near {
        @Override int kind() { return 4; }
        @Override int looks(int x) { bodies.add(50); return -super.looks(x); }
        @Override int goes(int x) { bodies.add(51); return super.goes(x + 1); }
    }

    static class Lazy extends Next {
        @Override int kind() { return 5; }
        @Override int tells(int x) { bodies.add(60); return super.tells(x - i); }
    }

    static class Told extends Swap {
        @Override int kind() { return 6; }
        @Override int goes(int x) { bodies.add(70); return super.goes(x) + super.looks(2); }
        @Override int looks(int x) { bodies.add(71); return super.looks(x) ^ v; }
    }

    private static Person born(int kind) {
        switch (kind) {
            case 1: return new Near();
            case 2: return new Next();
            case 3: return new Swap();
            case 4: return new Price();
            case 5: return new Lazy();
            case 6: return new Told();
            default: return new Person();
        }
    }

    // ---- streets

    private static final Pattern STREET = Pattern.compile(clausePattern() + "(?:;" + clausePattern() + "){0,9}", Pattern.DOTALL);

    private static String clausePattern() {
        String test = "[pskhfm][<=>][0-9]{1,2}";
        String f = test;
        for (int nested = 0; nested < 4; nested++) {
            f = "(?:" + test + "|!" + f + "|\\(" + either(f) + "\\))";
        }
        return "(?:wish|most|dear) [0-9]{1,2} " + either(f);
    }

    private static String either(String f) {
        String both = f + "(?:&" + f + ")*";
        return both + "(?:\\|" + both + ")*";
    }

    private static boolean begins(String text) {
        Matcher m = STREET.matcher(text);
        return m.matches() || m.hitEnd();
    }

    /** -1: none. */
    static int fault(String text) {
        if (STREET.matcher(text).matches()) {
            return -1;
        }
        for (int i = 0; i < text.length(); i++) {
            if (!begins(text.substring(0, i + 1))) {
                return i;
            }
        }
        return text.length();
    }

    private static List<Clause> clauses(String text) {
        List<Clause> all = new ArrayList<>();
        for (String part : text.split(";")) {
            String[] words = part.split(" ");
            all.add(new Clause(words[0].charAt(0), Integer.parseInt(words[1]), expression(words[2])));
        }
        return all;
    }

    private static Predicate<Facts> expression(String e) {
        for (char sign : new char[] {'|', '&'}) {
            int nested = 0;
            for (int i = 0; i < e.length(); i++) {
                nested += e.charAt(i) == '(' ? 1 : e.charAt(i) == ')' ? -1 : 0;
                if (nested == 0 && e.charAt(i) == sign) {
                    Predicate<Facts> left = expression(e.substring(0, i));
                    Predicate<Facts> right = expression(e.substring(i + 1));
                    return sign == '|' ? left.or(right) : left.and(right);
                }
            }
        }
        if (e.charAt(0) == '!') {
            return expression(e.substring(1)).negate();
        }
        if (e.charAt(0) == '(') {
            return expression(e.substring(1, e.length() - 1));
        }
        int number = Integer.parseInt(e.substring(2));
        char letter = e.charAt(0);
        char relation = e.charAt(1);
        return facts -> {
            int fact = letter == 'p' ? facts.p : letter == 's' ? facts.s : letter == 'k' ? facts.k
                : letter == 'h' ? facts.h : letter == 'f' ? facts.f : facts.m;
            return relation == '<' ? fact < number : relation == '=' ? fact == number : fact > number;
        };
    }

    // ---- the face

    private World now = new World(8, 0, List.of(), List.of(), 0, List.of(), null);
    private List<Integer> booked = List.of();
    private World imageWorld = null;
    private List<Integer> imageBook = null;
    private StringBuilder text = new StringBuilder();
    private int made = 0;
    private final Map<Integer, Object> tapes = new HashMap<>();
    private List<Integer> ran = List.of();

    World world() {
        return now;
    }

    private boolean isPerson(int p) {
        return p >= 0 && p < now.people.size();
    }

    private boolean isHouse(int h) {
        return h >= 0 && h < now.n;
    }

    int town(int n, int shape) {
        if (shape < 0 || shape > 2) {
            return NONE;
        }
        if (n < 3 || n > 8) {
            return BAD;
        }
        if (!now.homes.isEmpty() && Collections.max(now.homes) >= n) {
            return STATE;
        }
        int were = now.n;
        now = new World(n, shape, now.people, now.homes, now.moves, now.street, null);
        return were;
    }

    int neighbours(int house) {
        return !isHouse(house) ? NONE : bits(now.neighbours(house));
    }

    private static int bits(Iterable<Integer> all) {
        int bits = 0;
        for (int i : all) {
            bits += 1 << i;
        }
        return bits;
    }

    int person(int kind, int v, int sort, int house) {
        if (kind < 0 || kind > 6 || sort < 0 || sort > 2 || !isHouse(house)) {
            return NONE;
        }
        if (v < 0 || v > 9) {
            return BAD;
        }
        if (now.homes.contains(house)) {
            return STATE;
        }
        if (now.people.size() == 6) {
            return FULL;
        }
        Person one = born(kind);
        one.v = v;
        one.sort = sort;
        one.i = now.people.size();
        List<Person> people = new ArrayList<>(now.people);
        people.add(one);
        List<Integer> homes = new ArrayList<>(now.homes);
        homes.add(house);
        now = new World(now.n, now.shape, people, homes, now.moves, now.street, null);
        return one.i;
    }

    int of(int person, int what) {
        if (!isPerson(person) || what < 0 || what > 8) {
            return -10001;
        }
        Person one = now.people.get(person);
        Weights w = now.weights(person, now.homes.get(person));
        boolean content = now.content(person);
        return new int[] {one.kind(), one.v, one.sort, now.homes.get(person), w.wish, w.tooMuch, w.cost, content ? 1 : 0,
            content ? NOWHERE : now.goesTo(person)}[what];
    }

    int put(int person, int house) {
        if (!isPerson(person) || !isHouse(house)) {
            return NONE;
        }
        if (now.homes.contains(house)) {
            return STATE;
        }
        int was = now.homes.get(person);
        now = now.with(person, house);
        return was;
    }

    int feed(int sign) {
        if (sign < 0 || sign > 127) {
            return BAD;
        }
        if (text.length() == 100) {
            return FULL;
        }
        text.append((char) sign);
        return text.length();
    }

    int street() {
        if (made == 6) {
            return FULL;
        }
        String all = text.toString();
        text = new StringBuilder();
        if (fault(all) >= 0) {
            return -10 - fault(all);
        }
        now = new World(now.n, now.shape, now.people, now.homes, now.moves, clauses(all), null);
        return made++;
    }

    int told(int what) {
        if (what < 0 || what > 6) {
            return NONE;
        }
        return new int[] {now.n, now.shape, now.moves, now.pairs(true), now.pairs(false), now.happy(), bits(now.free())}[what];
    }

    int move() {
        if (now.moves == 9999) {
            return STATE;
        }
        int told = now.told();
        now = told == NOWHERE ? now : now.next();
        return told;
    }

    int run(int n, int what) {
        if (what < 0 || what > 2 && what < 10 || what >= 10 && !isPerson(what - 10)) {
            return -10001;
        }
        if (n < 0 || n > 100) {
            return -10002;
        }
        World then = now.behindRun(n);
        return what == 0 ? then.moves - now.moves : what == 1 ? then.pairs(true) : what == 2 ? then.happy() : then.homes.get(what - 10);
    }

    int rest() {
        World then = now.behindRun(100);
        return then.next() == null ? then.moves - now.moves : NOWHERE;
    }

    int again() {
        World then = now;
        for (int gone = 1; gone <= 100; gone++) {
            then = then.next();
            if (then == null) {
                return NOWHERE;
            }
            if (then.homes.equals(now.homes)) {
                return gone;
            }
        }
        return NOWHERE;
    }

    private List<World> contentWays() {
        List<World> all = new ArrayList<>();
        for (List<Integer> row : now.ways()) {
            World way = now.livingAs(row);
            if (way.allContent()) {
                all.add(way);
            }
        }
        return all;
    }

    int mixed(int person) {
        if (person != -1 && !isPerson(person)) {
            return -10001;
        }
        World best = null;
        for (World way : contentWays()) {
            if (best == null || way.pairs(true) < best.pairs(true)) {
                best = way;
            }
        }
        return best == null ? NOWHERE : person == -1 ? best.pairs(true) : best.homes.get(person);
    }

    int few() {
        int best = NOWHERE;
        for (World way : contentWays()) {
            int moved = 0;
            for (int p = 0; p < now.people.size(); p++) {
                moved += way.homes.get(p).equals(now.homes.get(p)) ? 0 : 1;
            }
            best = best == NOWHERE ? moved : Math.min(best, moved);
        }
        return best;
    }

    int edge() {
        for (int w = 100; w >= 0; w--) {
            if (now.wishing(w).allContent()) {
                return w;
            }
        }
        return NOWHERE;
    }

    int begins() {
        for (int w = 0; w <= 100; w++) {
            if (now.wishing(w).behindRun(20).pairs(true) > now.pairs(true)) {
                return w;
            }
        }
        return NOWHERE;
    }

    int holds() {
        int bits = 0;
        for (int gone = 0; gone < now.people.size(); gone++) {
            World without = now.with(gone, null);
            boolean missed = false;
            for (int p = 0; p < now.people.size(); p++) {
                missed |= p != gone && now.content(p) && !without.content(p);
            }
            bits += missed ? 1 << gone : 0;
        }
        return bits;
    }

    int before(int what) {
        if (what < 0 || what > 2) {
            return NONE;
        }
        List<int[]> pairs = new ArrayList<>();
        for (int p = 0; p < now.people.size(); p++) {
            for (int h : now.free()) {
                World then = now.with(p, h).behind(Math.max(0, now.moves - 1)).next();
                if (then != null && then.homes.equals(now.homes)) {
                    pairs.add(new int[] {p, h});
                }
            }
        }
        return what == 0 ? pairs.size() : pairs.isEmpty() ? NOWHERE : pairs.get(0)[what - 1];
    }

    long odds(int n, int part) {
        if (n < 0 || n > 2 || part < 0 || part > 1) {
            return NO;
        }
        List<World> all = List.of(now);
        for (int i = 0; i < n; i++) {
            List<World> then = new ArrayList<>();
            for (World world : all) {
                for (int p = 0; p < world.people.size(); p++) {
                    for (int h : world.free()) {
                        then.add(world.with(p, h));
                    }
                }
            }
            all = then.isEmpty() ? all : then;
        }
        long good = all.stream().filter(World::allContent).count();
        return lowest(good, all.size(), part);
    }

    private static long lowest(long above, long below, int part) {
        long a = above, b = below;
        while (b != 0) {
            long rest = a % b;
            a = b;
            b = rest;
        }
        return part == 0 ? above / a : below / a;
    }

    long quarter(int quarter, int sort, int part) {
        if (quarter < 0 || quarter > 1 || sort < 0 || sort > 2 || part < 0 || part > 1) {
            return NO;
        }
        int all = 0, of = 0;
        for (int h = quarter == 0 ? 0 : now.n / 2; h < (quarter == 0 ? now.n / 2 : now.n); h++) {
            int p = now.homes.indexOf(h);
            all += p >= 0 ? 1 : 0;
            of += p >= 0 && now.people.get(p).sort == sort ? 1 : 0;
        }
        return all == 0 ? NO : lowest(of, all, part);
    }

    int book(int told) {
        if (told == -1) {
            booked = List.of();
            return 0;
        }
        if (told < 0 || told > 57 || told % 10 > 7) {
            return NONE;
        }
        if (booked.size() == 12) {
            return FULL;
        }
        List<Integer> more = new ArrayList<>(booked);
        more.add(told);
        booked = more;
        return booked.size();
    }

    int looked() {
        World then = now;
        for (int i = 0; i < booked.size(); i++) {
            if (then.told() != booked.get(i)) {
                return i;
            }
            then = then.next();
        }
        return NOWHERE;
    }

    int judge(int tape, int i) {
        if (tape < 0 || tape > 5) {
            return NONE;
        }
        Object row = tapes.get(tape);
        if (row != null && !(row instanceof boolean[])) {
            return -12;
        }
        for (int p = 0; p < now.people.size(); p++) {
            if (row == null || i < 0 || (long) i + p >= Array.getLength(row)) {
                return 100 + p;
            }
            if (((boolean[]) row)[i + p] != now.content(p)) {
                return p;
            }
        }
        return NOWHERE;
    }

    int image() {
        imageWorld = now;
        imageBook = booked;
        return now.people.size();
    }

    int undo() {
        if (imageWorld == null) {
            return STATE;
        }
        now = imageWorld;
        booked = imageBook;
        return now.people.size();
    }

    int act(int person, int act, int x) {
        bodies = new ArrayList<>();
        ran = bodies;
        if (!isPerson(person) || act < 0 || act > 2) {
            return 0;
        }
        Person one = now.people.get(person);
        return act == 0 ? one.looks(x) : act == 1 ? one.goes(x) : one.tells(x);
    }

    int trace(int i) {
        return i < 0 || i >= Math.min(20, ran.size()) ? NONE : ran.get(i);
    }

    int taken(int person, int k) {
        if (k < 0 || k > 6) {
            return BAD;
        }
        if (!isPerson(person)) {
            return -11;
        }
        return born(k).getClass().isInstance(now.people.get(person)) ? now.people.get(person).kind() : -12;
    }

    int count(int what) {
        return what < 0 || what > 4 ? BAD : new int[] {now.people.size(), made, booked.size(), text.length(), ran.size()}[what];
    }

    int tape(int tape, int sort, int n) {
        if (tape < 0 || tape > 5) {
            return NONE;
        }
        if (sort == -1) {
            tapes.remove(tape);
            return 1;
        }
        if (sort < -1 || sort > 4 || n > 60) {
            return BAD;
        }
        if (n < 0) {
            return -14;
        }
        tapes.put(tape, sort == 0 ? new byte[n] : sort == 1 ? new short[n] : sort == 2 ? new int[n] : sort == 3 ? new long[n] : new boolean[n]);
        return 1;
    }

    int item(int tape, int i, long v) {
        if (tape < 0 || tape > 5) {
            return NONE;
        }
        Object row = tapes.get(tape);
        if (row == null) {
            return -11;
        }
        if (i < 0 || i >= Array.getLength(row)) {
            return -13;
        }
        if (row instanceof byte[] bytes) {
            bytes[i] = (byte) v;
        } else if (row instanceof short[] shorts) {
            shorts[i] = (short) v;
        } else if (row instanceof int[] ints) {
            ints[i] = (int) v;
        } else if (row instanceof long[] longs) {
            longs[i] = v;
        } else {
            ((boolean[]) row)[i] = v != 0;
        }
        return 1;
    }

    long read(int tape, int i) {
        Object row = tapes.get(tape);
        if (row == null || i < 0 || i >= Array.getLength(row)) {
            return NO;
        }
        return row instanceof boolean[] truths ? (truths[i] ? 1 : 0) : Array.getLong(row, i);
    }

    int shift(int tape, int i, int other, int j, int n) {
        if (tape < 0 || tape > 5 || other < 0 || other > 5) {
            return NONE;
        }
        Object from = tapes.get(tape);
        Object to = tapes.get(other);
        if (from == null || to == null) {
            return -11;
        }
        if (from.getClass() != to.getClass()) {
            return -12;
        }
        if (n < 0 || i < 0 || j < 0 || (long) i + n > Array.getLength(from) || (long) j + n > Array.getLength(to)) {
            return -13;
        }
        System.arraycopy(from, i, to, j, n);
        return n;
    }
}
