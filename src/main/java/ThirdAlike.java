/**
 * People of sorts in houses that have neighbours, and how they move until not fewer than a share are like oneself.
 * The promises stand in ../shared/DOC.md; words in capitals are the document's terms.
 */
public final class ThirdAlike {
    public static final int NONE = -1, BAD = -2, STATE = -3, FULL = -4;
    public static final long NO = Long.MIN_VALUE;

    private static final int NOBODY = -1, NOWHERE = -5;
    private static final int NONE_AMONG_NUMBERS = -10001, BAD_AMONG_NUMBERS = -10002;
    private static final int NOTHING = -11, CAST = -12, PLACE = -13, SIZE = -14;

    private static final int MOST_HOUSES = 8, MOST_PEOPLE = 6, MOST_STREETS = 6, MOST_BOOKED = 12;
    private static final int MOST_SIGNS = 100, MOST_CLAUSES = 10, MOST_NESTED = 4;
    private static final int MOST_MOVES = 9999, LONGEST_RUN = 100, RUN_OF_BEGINS = 20;
    private static final int TAPES = 6, LONGEST_TAPE = 60, MOST_TRACED = 20;

    private static final int RING = 0, BLOCK = 2;
    private static final int MOVER = 0, NEAR = 1, NEXT = 2, SWAP = 3, PRICE = 4, LAZY = 5, TOLD = 6;
    private static final int BYTES = 0, SHORTS = 1, INTS = 2, BOOLEANS = 4;
    private static final int WISH = 0, TOO_MUCH = 1, COST = 2, WEIGHTS = 3;

    /** The KIND above each KIND. */
    private static final int[] ABOVE = {-1, MOVER, MOVER, MOVER, NEAR, NEXT, SWAP};

    /**
     * With at most five others around, the share of one's own SORT is a fifth, a quarter, a third, a half and so on:
     * a WISH between two of these numbers asks no more than the lower one of them does.
     */
    private static final int[] WISHES_THAT_DIFFER = {0, 1, 21, 26, 34, 41, 51, 61, 67, 76, 81};

    private final Street[] streets = new Street[MOST_STREETS];
    private final Tape[] tapes = new Tape[TAPES];
    private final Text text = new Text();
    private final Actor actor = new Actor();
    private final Ways ways = new Ways();
    private final State now;
    private final State kept;
    private final Life life;
    private int made;
    private boolean isKept;

    public ThirdAlike() {
        Street none = new Street();
        for (int i = 0; i < MOST_STREETS; i++) {
            streets[i] = new Street();
        }
        for (int i = 0; i < TAPES; i++) {
            tapes[i] = new Tape();
        }
        now = new State(none);
        kept = new State(none);
        life = new Life(none);
    }

    // ---- houses, people, streets

    public int town(int n, int shape) {
        if (shape < RING || shape > BLOCK) {
            return NONE;
        }
        if (n < 3 || n > MOST_HOUSES) {
            return BAD;
        }
        for (int p = 0; p < now.people; p++) {
            if (now.house[p] >= n) {
                return STATE;
            }
        }
        int were = now.houses;
        now.layOut(n, shape);
        return were;
    }

    public int neighbours(int house) {
        return isHouse(house) ? now.around[house] : NONE;
    }

    public int person(int kind, int v, int sort, int house) {
        if (kind < MOVER || kind > TOLD || sort < 0 || sort > 2 || !isHouse(house)) {
            return NONE;
        }
        if (v < 0 || v > 9) {
            return BAD;
        }
        if (now.whoIn(house) != NOBODY) {
            return STATE;
        }
        if (now.people >= MOST_PEOPLE) {
            return FULL;
        }
        return now.settle(kind, v, sort, house);
    }

    public int of(int person, int what) {
        if (!isPerson(person)) {
            return NONE_AMONG_NUMBERS;
        }
        int house = now.house[person];
        life.startFrom(now);
        switch (what) {
            case 0: return now.kind[person];
            case 1: return now.v[person];
            case 2: return now.sort[person];
            case 3: return house;
            case 4: return life.weightOf(person, WISH);
            case 5: return life.weightOf(person, TOO_MUCH);
            case 6: return life.weightOf(person, COST);
            case 7: return life.suits(person, house) ? 1 : 0;
            case 8: return life.suits(person, house) ? NOWHERE : life.goesTo(person);
            default: return NONE_AMONG_NUMBERS;
        }
    }

    public int put(int person, int house) {
        if (!isPerson(person) || !isHouse(house)) {
            return NONE;
        }
        if (now.whoIn(house) != NOBODY) {
            return STATE;
        }
        int was = now.house[person];
        now.house[person] = house;
        return was;
    }

    public int feed(int sign) {
        if (sign < 0 || sign > 127) {
            return BAD;
        }
        return text.append(sign) ? text.length : FULL;
    }

    public int street() {
        if (made < 0 || made >= MOST_STREETS) {
            return FULL;
        }
        int fault = text.parseInto(streets[made]);
        text.length = 0;
        if (fault >= 0) {
            return -10 - fault;
        }
        now.holding = streets[made];
        made++;
        return made - 1;
    }

    public int told(int what) {
        life.startFrom(now);
        switch (what) {
            case 0: return now.houses;
            case 1: return now.shape;
            case 2: return now.moves;
            case 3: return now.likePairs();
            case 4: return now.allPairs();
            case 5: return life.happy();
            case 6: return now.freeHouses();
            default: return NONE;
        }
    }

    // ---- moves

    public int move() {
        if (now.moves >= MOST_MOVES) {
            return STATE;
        }
        life.startFrom(now);
        int gone = life.step();
        now.copyFrom(life.all);
        return gone;
    }

    public int run(int n, int what) {
        boolean asksForHouse = what >= 10 && isPerson(what - 10);
        if ((what < 0 || what > 2) && !asksForHouse) {
            return NONE_AMONG_NUMBERS;
        }
        if (n < 0 || n > LONGEST_RUN) {
            return BAD_AMONG_NUMBERS;
        }
        life.startFrom(now);
        int gone = 0;
        while (gone < n && life.step() >= 0) {
            gone++;
        }
        switch (what) {
            case 0: return gone;
            case 1: return life.all.likePairs();
            case 2: return life.happy();
            default: return asksForHouse ? life.all.house[what - 10] : NONE_AMONG_NUMBERS;
        }
    }

    public int rest() {
        life.startFrom(now);
        for (int gone = 0; gone <= LONGEST_RUN; gone++) {
            if (life.step() < 0) {
                return gone;
            }
        }
        return NOWHERE;
    }

    public int again() {
        life.startFrom(now);
        for (int gone = 1; gone <= LONGEST_RUN; gone++) {
            if (life.step() < 0) {
                return NOWHERE;
            }
            if (life.all.isLivedInAs(now)) {
                return gone;
            }
        }
        return NOWHERE;
    }

    // ---- mixed, held

    public int mixed(int person) {
        if (person != NOBODY && !isPerson(person)) {
            return NONE_AMONG_NUMBERS;
        }
        life.startFrom(now);
        int pairs = ways.find(life, true);
        return person == NOBODY || pairs < 0 ? pairs : ways.found[person];
    }

    public int few() {
        life.startFrom(now);
        return ways.find(life, false);
    }

    public int edge() {
        life.startFrom(now);
        for (int wish = 100; wish >= 0; wish--) {
            life.wishForAll = wish;
            if (life.allSuit()) {
                return wish;
            }
        }
        return NOWHERE;
    }

    public int begins() {
        int pairs = now.likePairs();
        for (int wish : WISHES_THAT_DIFFER) {
            life.startFrom(now);
            life.wishForAll = wish;
            int gone = 0;
            while (gone < RUN_OF_BEGINS && life.step() >= 0) {
                gone++;
            }
            if (life.all.likePairs() > pairs) {
                return wish;
            }
        }
        return NOWHERE;
    }

    public int holds() {
        life.startFrom(now);
        int happy = life.happy();
        int holders = 0;
        for (int p = 0; p < now.people; p++) {
            life.all.house[p] = NOBODY;
            if ((happy & ~life.happy() & ~(1 << p)) != 0) {
                holders |= 1 << p;
            }
            life.all.house[p] = now.house[p];
        }
        return holders;
    }

    public int before(int what) {
        if (what < 0 || what > 2) {
            return NONE;
        }
        int many = 0;
        int who = NOWHERE;
        int from = NOWHERE;
        for (int p = 0; p < now.people; p++) {
            for (int h = 0; h < now.houses; h++) {
                if (now.whoIn(h) == NOBODY) {
                    life.startFrom(now);
                    life.all.house[p] = h;
                    life.all.moves = Math.max(0, now.moves - 1);
                    if (life.step() >= 0 && life.all.isLivedInAs(now)) {
                        who = many == 0 ? p : who;
                        from = many == 0 ? h : from;
                        many++;
                    }
                }
            }
        }
        return what == 0 ? many : what == 1 ? who : from;
    }

    // ---- odds, quarters, books

    public long odds(int n, int part) {
        if (n < 0 || n > 2 || part < 0 || part > 1) {
            return NO;
        }
        life.startFrom(now);
        int pairs = now.people * (now.houses - now.people);
        int goes = pairs == 0 ? 0 : n;
        int all = 1;
        for (int i = 0; i < goes; i++) {
            all *= pairs;
        }
        return partInLowestTerms(Life.contentBehind(life, goes), all, part);
    }

    public long quarter(int quarter, int sort, int part) {
        if (quarter < 0 || quarter > 1 || sort < 0 || sort > 2 || part < 0 || part > 1) {
            return NO;
        }
        int all = 0;
        int ofSort = 0;
        for (int p = 0; p < now.people; p++) {
            int livesIn = now.house[p] < now.houses / 2 ? 0 : 1;
            if (livesIn == quarter) {
                all++;
                ofSort += now.sort[p] == sort ? 1 : 0;
            }
        }
        return partInLowestTerms(ofSort, all, part);
    }

    public int book(int told) {
        if (told == -1) {
            now.bookedCount = 0;
            return 0;
        }
        if (told < 0 || told / 10 >= MOST_PEOPLE || told % 10 >= MOST_HOUSES) {
            return NONE;
        }
        if (now.bookedCount >= MOST_BOOKED) {
            return FULL;
        }
        now.booked[now.bookedCount] = told;
        now.bookedCount++;
        return now.bookedCount;
    }

    public int looked() {
        life.startFrom(now);
        for (int i = 0; i < now.bookedCount; i++) {
            if (life.step() != now.booked[i]) {
                return i;
            }
        }
        return NOWHERE;
    }

    // ---- judging, the image, acts, tapes

    public int judge(int tape, int i) {
        if (!isTape(tape)) {
            return NONE;
        }
        Tape row = tapes[tape];
        if (row.isThere() && row.sort != BOOLEANS) {
            return CAST;
        }
        life.startFrom(now);
        for (int p = 0; p < now.people; p++) {
            // i + p of a place near the greatest int would wrap to one below 0
            if (i < 0 || i >= row.length - p) {
                return 100 + p;
            }
            if (life.suits(p, now.house[p]) != (row.items[i + p] != 0)) {
                return p;
            }
        }
        return NOWHERE;
    }

    public int image() {
        kept.copyFrom(now);
        isKept = true;
        return kept.people;
    }

    public int undo() {
        if (!isKept) {
            return STATE;
        }
        now.copyFrom(kept);
        return now.people;
    }

    public int act(int person, int act, int x) {
        actor.ran = 0;
        if (!isPerson(person) || act < 0 || act > 2) {
            return 0;
        }
        actor.kind = now.kind[person];
        actor.v = now.v[person];
        actor.who = person;
        switch (act) {
            case 0: return Actor.looks(actor, actor.kind, x);
            case 1: return Actor.goes(actor, actor.kind, x);
            default: return Actor.tells(actor, actor.kind, x);
        }
    }

    public int trace(int i) {
        return i < 0 || i >= actor.ran || i >= MOST_TRACED ? NONE : actor.bodies[i];
    }

    public int taken(int person, int k) {
        if (k < MOVER || k > TOLD) {
            return BAD;
        }
        if (!isPerson(person)) {
            return NOTHING;
        }
        // no KIND has more than two above it
        int kind = now.kind[person];
        for (int up = 0; up < 3 && kind >= MOVER; up++) {
            if (kind == k) {
                return now.kind[person];
            }
            kind = ABOVE[kind];
        }
        return CAST;
    }

    public int count(int what) {
        switch (what) {
            case 0: return now.people;
            case 1: return made;
            case 2: return now.bookedCount;
            case 3: return text.length;
            case 4: return actor.ran;
            default: return BAD;
        }
    }

    public int tape(int tape, int sort, int n) {
        if (!isTape(tape)) {
            return NONE;
        }
        if (sort == Tape.NO_SORT) {
            tapes[tape].become(sort, 0);
            return 1;
        }
        if (sort < BYTES || sort > BOOLEANS || n > LONGEST_TAPE) {
            return BAD;
        }
        if (n < 0) {
            return SIZE;
        }
        tapes[tape].become(sort, n);
        return 1;
    }

    public int item(int tape, int i, long v) {
        if (!isTape(tape)) {
            return NONE;
        }
        Tape row = tapes[tape];
        if (!row.isThere()) {
            return NOTHING;
        }
        if (i < 0 || i >= row.length) {
            return PLACE;
        }
        row.items[i] = row.cut(v);
        return 1;
    }

    public long read(int tape, int i) {
        if (!isTape(tape) || i < 0 || i >= tapes[tape].length) {
            return NO;
        }
        return tapes[tape].items[i];
    }

    public int shift(int tape, int i, int other, int j, int n) {
        if (!isTape(tape) || !isTape(other)) {
            return NONE;
        }
        Tape from = tapes[tape];
        Tape to = tapes[other];
        if (!from.isThere() || !to.isThere()) {
            return NOTHING;
        }
        if (from.sort != to.sort) {
            return CAST;
        }
        if (n < 0 || !from.has(i, n) || !to.has(j, n)) {
            return PLACE;
        }
        System.arraycopy(from.items, i, to.items, j, n);
        return n;
    }

    private boolean isHouse(int h) {
        return h >= 0 && h < now.houses;
    }

    private boolean isPerson(int p) {
        return p >= 0 && p < now.people;
    }

    private static boolean isTape(int t) {
        return t >= 0 && t < TAPES;
    }

    /** NO for a fraction of nothing. */
    private static long partInLowestTerms(int above, int below, int part) {
        if (below <= 0) {
            return NO;
        }
        int shared = 1;
        for (int by = 2; by <= below; by++) {
            if (above % by == 0 && below % by == 0) {
                shared = by;
            }
        }
        return part == 0 ? above / shared : below / shared;
    }

    /** All that THE IMAGE takes. */
    private static final class State {
        int houses;
        int shape;
        final int[] around = new int[MOST_HOUSES];
        int people;
        final int[] kind = new int[MOST_PEOPLE];
        final int[] v = new int[MOST_PEOPLE];
        final int[] sort = new int[MOST_PEOPLE];
        final int[] house = new int[MOST_PEOPLE];
        int moves;
        final int[] booked = new int[MOST_BOOKED];
        int bookedCount;
        Street holding;

        State(Street none) {
            holding = none;
            layOut(MOST_HOUSES, RING);
        }

        void layOut(int n, int form) {
            houses = n;
            shape = form;
            for (int h = 0; h < n && h < MOST_HOUSES; h++) {
                around[h] = 0;
                for (int other = 0; other < n; other++) {
                    if (other != h && areNeighbours(h, other)) {
                        around[h] |= 1 << other;
                    }
                }
            }
        }

        private boolean areNeighbours(int a, int b) {
            int apart = Math.abs(a - b);
            if (shape == BLOCK) {
                return Math.abs(a / 4 - b / 4) <= 1 && Math.abs(a % 4 - b % 4) <= 1;
            }
            return apart <= 2 || shape == RING && houses - apart <= 2;
        }

        int settle(int newKind, int newV, int newSort, int newHouse) {
            int p = people;
            if (p < 0 || p >= MOST_PEOPLE) {
                return FULL;
            }
            kind[p] = newKind;
            v[p] = newV;
            sort[p] = newSort;
            house[p] = newHouse;
            people++;
            return p;
        }

        int whoIn(int h) {
            for (int p = 0; p < people; p++) {
                if (house[p] == h) {
                    return p;
                }
            }
            return NOBODY;
        }

        int freeHouses() {
            int free = 0;
            for (int h = 0; h < houses; h++) {
                if (whoIn(h) == NOBODY) {
                    free |= 1 << h;
                }
            }
            return free;
        }

        /** One who is gone from the street lives beside no house. */
        boolean livesBeside(int p, int h) {
            return house[p] >= 0 && (around[h] >> house[p] & 1) != 0;
        }

        int likePairs() {
            int pairs = 0;
            for (int p = 1; p < people; p++) {
                pairs += likePairsBelow(p);
            }
            return pairs;
        }

        /** LIKE PAIRS of one with those of lower numbers. */
        int likePairsBelow(int p) {
            int pairs = 0;
            for (int q = 0; q < p; q++) {
                if (sort[q] == sort[p] && livesBeside(q, house[p])) {
                    pairs++;
                }
            }
            return pairs;
        }

        int allPairs() {
            int pairs = 0;
            for (int p = 1; p < people; p++) {
                for (int q = 0; q < p; q++) {
                    if (livesBeside(q, house[p])) {
                        pairs++;
                    }
                }
            }
            return pairs;
        }

        boolean isLivedInAs(State other) {
            for (int p = 0; p < people; p++) {
                if (house[p] != other.house[p]) {
                    return false;
                }
            }
            return true;
        }

        void copyFrom(State other) {
            houses = other.houses;
            shape = other.shape;
            people = other.people;
            moves = other.moves;
            bookedCount = other.bookedCount;
            holding = other.holding;
            System.arraycopy(other.around, 0, around, 0, MOST_HOUSES);
            System.arraycopy(other.kind, 0, kind, 0, MOST_PEOPLE);
            System.arraycopy(other.v, 0, v, 0, MOST_PEOPLE);
            System.arraycopy(other.sort, 0, sort, 0, MOST_PEOPLE);
            System.arraycopy(other.house, 0, house, 0, MOST_PEOPLE);
            System.arraycopy(other.booked, 0, booked, 0, MOST_BOOKED);
        }
    }

    /** A copy of how all is, on which a question is tried out. */
    private static final class Life {
        private static final int UNTOLD = -1, ANY_COST = 1000;
        private static final int CASES = MOST_PEOPLE * MOST_HOUSES * MOST_PEOPLE;

        final State all;
        int wishForAll = UNTOLD;
        private final int[] facts = new int[Street.SUBJECTS];
        private int others;
        private int alike;
        private int weights;

        // MIXED asks for some 100,000 judgements, but one in a HOUSE with f others is weighed alike while MOVES stay
        private final int[] known = new int[CASES * WEIGHTS];
        private final int[] knownSince = new int[CASES];
        private int since;

        Life(Street none) {
            all = new State(none);
        }

        void startFrom(State now) {
            all.copyFrom(now);
            wishForAll = UNTOLD;
            since++;
        }

        /** Finds who is around one in a HOUSE, and where their WISH, TOO MUCH and COST there are known. */
        private void weigh(int p, int h) {
            others = 0;
            alike = 0;
            for (int q = 0; q < all.people; q++) {
                if (q != p && all.livesBeside(q, h)) {
                    others++;
                    alike += all.sort[q] == all.sort[p] ? 1 : 0;
                }
            }
            int situation = (p * MOST_HOUSES + h) * MOST_PEOPLE + others;
            weights = situation * WEIGHTS;
            if (knownSince[situation] != since) {
                knownSince[situation] = since;
                facts[0] = p;
                facts[1] = all.sort[p];
                facts[2] = all.kind[p];
                facts[3] = h;
                facts[4] = others;
                facts[5] = all.moves % 60;
                all.holding.weigh(facts, known, weights);
            }
        }

        int weightOf(int p, int which) {
            weigh(p, all.house[p]);
            return known[weights + which];
        }

        /** Whether one would be CONTENT in a HOUSE, all others living as they do. */
        boolean suits(int p, int h) {
            weigh(p, h);
            int wish = wishForAll == UNTOLD ? known[weights + WISH] : wishForAll;
            int tooMuch = known[weights + TOO_MUCH];
            return others == 0 || 100 * alike >= wish * others && 100 * alike <= tooMuch * others;
        }

        boolean allSuit() {
            for (int p = 0; p < all.people; p++) {
                if (!suits(p, all.house[p])) {
                    return false;
                }
            }
            return true;
        }

        int happy() {
            int bits = 0;
            for (int p = 0; p < all.people; p++) {
                if (all.house[p] >= 0 && suits(p, all.house[p])) {
                    bits |= 1 << p;
                }
            }
            return bits;
        }

        /** Where one goes who is not CONTENT. */
        int goesTo(int p) {
            int v = all.v[p];
            switch (all.kind[p]) {
                case NEAR:
                    return nearest(p, ANY_COST);
                case PRICE:
                    return nearest(p, 10 * v);
                case NEXT:
                    return nextBehind(p);
                case LAZY:
                    return v + 2 <= 0 || all.moves % (v + 2) == 0 ? NOWHERE : nextBehind(p);
                case SWAP:
                case TOLD:
                    if (all.kind[p] == TOLD && v < all.houses && all.whoIn(v) == NOBODY) {
                        return v;
                    }
                    int partner = partnerOf(p);
                    return partner == NOBODY ? least(p) : all.house[partner];
                default:
                    return least(p);
            }
        }

        private int least(int p) {
            for (int h = 0; h < all.houses; h++) {
                if (all.whoIn(h) == NOBODY && suits(p, h)) {
                    return h;
                }
            }
            return NOWHERE;
        }

        private int nearest(int p, int mostCost) {
            int best = NOWHERE;
            int bestApart = MOST_HOUSES;
            for (int h = 0; h < all.houses; h++) {
                int apart = Math.abs(h - all.house[p]);
                if (apart < bestApart && all.whoIn(h) == NOBODY && suits(p, h) && known[weights + COST] <= mostCost) {
                    best = h;
                    bestApart = apart;
                }
            }
            return best;
        }

        private int nextBehind(int p) {
            int h = all.house[p];
            for (int i = 1; i < all.houses; i++) {
                h = h + 1 >= all.houses ? 0 : h + 1;
                if (all.whoIn(h) == NOBODY && suits(p, h)) {
                    return h;
                }
            }
            return NOWHERE;
        }

        private int partnerOf(int p) {
            for (int q = 0; q < all.people; q++) {
                if (all.sort[q] != all.sort[p]) {
                    changeHouses(p, q);
                    boolean bothSuit = suits(p, all.house[p]) && suits(q, all.house[q]);
                    changeHouses(p, q);
                    if (bothSuit) {
                        return q;
                    }
                }
            }
            return NOBODY;
        }

        private void changeHouses(int p, int q) {
            int h = all.house[p];
            all.house[p] = all.house[q];
            all.house[q] = h;
        }

        /** A MOVE: 10 times who goes, and the HOUSE; or NOWHERE. */
        int step() {
            for (int p = 0; p < all.people; p++) {
                int h = suits(p, all.house[p]) ? NOWHERE : goesTo(p);
                if (h != NOWHERE) {
                    int partner = all.whoIn(h);
                    if (partner == NOBODY) {
                        all.house[p] = h;
                    } else {
                        changeHouses(p, partner);
                    }
                    all.moves++;
                    since++;
                    return 10 * p + h;
                }
            }
            return NOWHERE;
        }

        /** Behind how many of all rows of so many idle moves all are CONTENT. */
        private static int contentBehind(Life life, int goes) {
            if (goes <= 0) {
                return life.allSuit() ? 1 : 0;
            }
            State all = life.all;
            int rows = 0;
            for (int p = 0; p < all.people; p++) {
                int own = all.house[p];
                int free = all.freeHouses();
                for (int h = 0; h < all.houses; h++) {
                    if ((free >> h & 1) != 0) {
                        all.house[p] = h;
                        rows += contentBehind(life, goes - 1);
                    }
                }
                all.house[p] = own;
            }
            return rows;
        }
    }

    /** All ways in which the PEOPLE could live, all being CONTENT. */
    private static final class Ways {
        private static final int ABOVE_ALL = 1000;

        final int[] found = new int[MOST_PEOPLE];
        private final int[] start = new int[MOST_PEOPLE];
        private boolean byPairs;
        private int fewest;

        /** The fewest LIKE PAIRS, or how few live otherwise than now; or NOWHERE. Leaves the life anyhow. */
        int find(Life life, boolean byLikePairs) {
            byPairs = byLikePairs;
            fewest = ABOVE_ALL;
            System.arraycopy(life.all.house, 0, start, 0, MOST_PEOPLE);
            tryFrom(this, life, 0, 0, 0);
            return fewest == ABOVE_ALL ? NOWHERE : fewest;
        }

        /** What has as many already as the best way so far is left: of several ways the first one holds. */
        private static void tryFrom(Ways ways, Life life, int p, int lived, int soFar) {
            State all = life.all;
            if (soFar >= ways.fewest) {
                return;
            }
            if (p >= all.people || p >= MOST_PEOPLE) {
                if (life.allSuit()) {
                    ways.fewest = soFar;
                    System.arraycopy(all.house, 0, ways.found, 0, MOST_PEOPLE);
                }
                return;
            }
            for (int h = 0; h < all.houses; h++) {
                if ((lived >> h & 1) == 0) {
                    all.house[p] = h;
                    int more = ways.byPairs ? all.likePairsBelow(p) : h == ways.start[p] ? 0 : 1;
                    tryFrom(ways, life, p + 1, lived | 1 << h, soFar + more);
                }
            }
        }
    }

    /** CLAUSES as one row of steps: tests, what joins them, and behind each CLAUSE's what it weighs. */
    private static final class Street {
        static final int SUBJECTS = 6, RELATIONS = 3;
        static final int NOT = SUBJECTS * RELATIONS, AND = NOT + 1, OR = NOT + 2;
        static final int WISH_CLAUSE = NOT + 3, MOST_CLAUSE = NOT + 4, DEAR_CLAUSE = NOT + 5;

        private final int[] steps = new int[MOST_SIGNS];
        private int length;
        private boolean hasWishes;

        void clear() {
            length = 0;
            hasWishes = false;
        }

        void add(int step, int number) {
            if (length < MOST_SIGNS) {
                steps[length] = step * 100 + number;
                length++;
                hasWishes = hasWishes || step == WISH_CLAUSE;
            }
        }

        /** Writes WISH, TOO MUCH and COST of one with such facts, from a place on. */
        void weigh(int[] facts, int[] into, int place) {
            int wish = 0;
            int tooMuch = 100;
            int cost = 0;
            // what is not yet joined stands in the bits, the newest lowest: nesting keeps them under a dozen
            int truths = 0;
            for (int i = 0; i < length; i++) {
                int step = steps[i] / 100;
                int number = steps[i] % 100;
                int newest = truths & 1;
                switch (step) {
                    case NOT:
                        truths ^= 1;
                        break;
                    case AND:
                        truths = truths >> 1 & (newest | ~1);
                        break;
                    case OR:
                        truths = truths >> 1 | newest;
                        break;
                    case WISH_CLAUSE:
                        wish += newest * number;
                        truths >>= 1;
                        break;
                    case MOST_CLAUSE:
                        tooMuch = newest == 1 && number < tooMuch ? number : tooMuch;
                        truths >>= 1;
                        break;
                    case DEAR_CLAUSE:
                        cost += newest * number;
                        truths >>= 1;
                        break;
                    default:
                        int fact = facts[step / RELATIONS];
                        int relation = fact < number ? 0 : fact == number ? 1 : 2;
                        truths = truths << 1 | (relation == step % RELATIONS ? 1 : 0);
                        break;
                }
            }
            into[place + WISH] = !hasWishes ? 33 : wish > 100 ? 100 : wish;
            into[place + TOO_MUCH] = tooMuch;
            into[place + COST] = cost;
        }
    }

    /** THE TEXT, and the reading of it. */
    private static final class Text {
        private static final int NO_SIGN = -1, NO_FAULT = -1;
        private static final String SUBJECT_LETTERS = "pskhfm", RELATION_SIGNS = "<=>";

        int length;
        private final byte[] signs = new byte[MOST_SIGNS];
        private Street target;
        private int at;
        private int sign;
        private boolean faulty;

        boolean append(int newSign) {
            if (length < 0 || length >= MOST_SIGNS) {
                return false;
            }
            signs[length] = (byte) newSign;
            length++;
            return true;
        }

        /** The place of the FAULT; NO_FAULT when the street stands. */
        int parseInto(Street street) {
            target = street;
            target.clear();
            faulty = false;
            lookAt(0);
            for (int clauses = 0; clauses < MOST_CLAUSES; clauses++) {
                if (clauses > 0) {
                    expect(';');
                }
                readClause();
                if (faulty) {
                    return at;
                }
                if (at >= length) {
                    return NO_FAULT;
                }
            }
            return at;
        }

        private void lookAt(int place) {
            at = place;
            sign = place >= 0 && place < length && place < MOST_SIGNS ? signs[place] : NO_SIGN;
        }

        /** Behind a fault nothing more is read: its place is that of the first one. */
        private void expect(int wanted) {
            faulty = faulty || sign != wanted;
            if (!faulty) {
                lookAt(at + 1);
            }
        }

        private void readClause() {
            int step = sign == 'm' ? Street.MOST_CLAUSE : sign == 'd' ? Street.DEAR_CLAUSE : Street.WISH_CLAUSE;
            String word = sign == 'm' ? "most " : sign == 'd' ? "dear " : "wish ";
            for (int i = 0; i < word.length(); i++) {
                expect(word.charAt(i));
            }
            int number = readNumber();
            expect(' ');
            readEither(this, 0);
            target.add(step, number);
        }

        private int readNumber() {
            int number = 0;
            for (int digits = 0; digits < 2; digits++) {
                if (sign >= '0' && sign <= '9' && !faulty) {
                    number = number * 10 + sign - '0';
                    lookAt(at + 1);
                } else if (digits == 0) {
                    faulty = true;
                }
            }
            return number;
        }

        private static void readEither(Text text, int nested) {
            readBoth(text, nested);
            for (int parts = 1; parts < MOST_SIGNS && !text.faulty && text.sign == '|'; parts++) {
                text.expect('|');
                readBoth(text, nested);
                text.target.add(Street.OR, 0);
            }
        }

        private static void readBoth(Text text, int nested) {
            readPart(text, nested);
            for (int parts = 1; parts < MOST_SIGNS && !text.faulty && text.sign == '&'; parts++) {
                text.expect('&');
                readPart(text, nested);
                text.target.add(Street.AND, 0);
            }
        }

        private static void readPart(Text text, int nested) {
            if (nested < MOST_NESTED && !text.faulty && text.sign == '!') {
                text.expect('!');
                readPart(text, nested + 1);
                text.target.add(Street.NOT, 0);
            } else if (nested < MOST_NESTED && !text.faulty && text.sign == '(') {
                text.expect('(');
                readEither(text, nested + 1);
                text.expect(')');
            } else {
                int subject = text.readOneOf(SUBJECT_LETTERS);
                int relation = text.readOneOf(RELATION_SIGNS);
                text.target.add(subject * Street.RELATIONS + relation, text.readNumber());
            }
        }

        /** Which of the wanted signs comes; at a fault, where it no longer matters, the first of them. */
        private int readOneOf(String wanted) {
            for (int i = 0; i < wanted.length(); i++) {
                if (!faulty && sign == wanted.charAt(i)) {
                    lookAt(at + 1);
                    return i;
                }
            }
            faulty = true;
            return 0;
        }
    }

    /** Does an ACT and keeps its TRACE. A kind given to an act is where the search for its body begins. */
    private static final class Actor {
        int kind;
        int v;
        int who;
        int ran;
        final int[] bodies = new int[MOST_TRACED];

        private void begin(int body) {
            if (ran >= 0 && ran < MOST_TRACED) {
                bodies[ran] = body;
            }
            ran++;
        }

        private static int looks(Actor actor, int from, int x) {
            switch (from) {
                case NEXT:
                case LAZY:
                    actor.begin(30);
                    return looks(actor, MOVER, x * 3);
                case PRICE:
                    actor.begin(50);
                    return -looks(actor, NEAR, x);
                case TOLD:
                    actor.begin(71);
                    return looks(actor, SWAP, x) ^ actor.v;
                default:
                    actor.begin(10);
                    return x + actor.who;
            }
        }

        private static int goes(Actor actor, int from, int x) {
            switch (from) {
                case NEAR:
                    actor.begin(20);
                    return goes(actor, MOVER, x) ^ 6;
                case PRICE:
                    actor.begin(51);
                    return goes(actor, NEAR, x + 1);
                case TOLD:
                    actor.begin(70);
                    int gone = goes(actor, SWAP, x);
                    return gone + looks(actor, SWAP, 2);
                default:
                    actor.begin(11);
                    return looks(actor, actor.kind, x) - actor.v;
            }
        }

        private static int tells(Actor actor, int from, int x) {
            switch (from) {
                case SWAP:
                case TOLD:
                    actor.begin(40);
                    int said = tells(actor, MOVER, x);
                    return said + goes(actor, actor.kind, 1);
                case LAZY:
                    actor.begin(60);
                    return tells(actor, NEXT, x - actor.who);
                default:
                    actor.begin(12);
                    return goes(actor, actor.kind, x) * 2;
            }
        }
    }

    /** A row of one sort of items, or nothing. */
    private static final class Tape {
        static final int NO_SORT = -1;

        int sort = NO_SORT;
        int length;
        final long[] items = new long[LONGEST_TAPE];

        boolean isThere() {
            return sort != NO_SORT;
        }

        void become(int newSort, int n) {
            sort = newSort;
            length = n;
            for (int i = 0; i < LONGEST_TAPE; i++) {
                items[i] = 0;
            }
        }

        /** A difference of two ints of which none is below 0 does not wrap, as their sum would. */
        boolean has(int from, int n) {
            return from >= 0 && n >= 0 && from <= length && n <= length - from;
        }

        long cut(long value) {
            switch (sort) {
                case BYTES: return (byte) value;
                case SHORTS: return (short) value;
                case INTS: return (int) value;
                case BOOLEANS: return value != 0 ? 1 : 0;
                default: return value;
            }
        }
    }
}
