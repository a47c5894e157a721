import java.util.Random;

/** Random runs of calls, each answer held against the Model's. The seeds are fixed: every run is the same. */
public final class ModelTest {
    private static final int RUNS = 900, FAR_TRIES = 12;
    /** An object is used for so many calls; what the last questions take is left to them. */
    private static final int LONGEST_LIFE = 512, LAST_QUESTIONS = 120;

    private final Random random;
    private final ThirdAlike x = new ThirdAlike();
    private final Model m = new Model();
    private final String run;
    private int calls = 0;

    private ModelTest(long seed) {
        random = new Random(seed);
        run = "run " + seed + ", call ";
    }

    public static void main(String[] args) {
        int runs = args.length > 0 ? Integer.parseInt(args[0]) : RUNS;
        long first = args.length > 1 ? Long.parseLong(args[1]) : 1;
        int far = 0;
        for (long seed = first; seed < first + runs && Check.wrongSoFar() < 20; seed++) {
            new ModelTest(seed).wander(seed % 3 == 0);
            for (int i = 0; i < FAR_TRIES && Check.wrongSoFar() < 20; i++) {
                far += new ModelTest(-seed * FAR_TRIES - i).walkFar() ? 1 : 0;
            }
        }
        System.out.println(far + " of the streets never rested");
        Check.holds("some street never rests", far > 0);
        Check.end();
    }

    private int any(int low, int high) {
        return low + random.nextInt(high - low + 1);
    }

    /** Mostly a number from low to high, at times one beside them, seldom one far off. */
    private int near(int low, int high) {
        int dice = random.nextInt(60);
        if (dice == 0) {
            return random.nextBoolean() ? Integer.MAX_VALUE : Integer.MIN_VALUE;
        }
        if (dice == 1) {
            return random.nextInt();
        }
        return dice < 5 ? any(low - 2, high + 2) : any(low, high);
    }

    private void due(String call, long got, long want) {
        calls++;
        Check.due(run + calls + ": " + call, got, want);
    }

    private void settle(int mostPeople) {
        int n = any(3, 8);
        int shape = any(0, 2);
        due("town", x.town(n, shape), m.town(n, shape));
        for (int i = any(0, mostPeople); i > 0; i--) {
            callPerson();
        }
    }

    private void wander(boolean crowded) {
        settle(crowded ? 14 : 7);
        if (random.nextInt(4) > 0) {
            feedAll(street());
        }
        int length = any(20, 110);
        for (int i = 0; i < length && calls < LONGEST_LIFE - LAST_QUESTIONS; i++) {
            call(random.nextInt(100));
        }
        all();
        while (crowded && calls < LONGEST_LIFE) {
            due("move()", x.move(), m.move());
        }
        endsInLife();
    }

    /** Many MOVES, so that MOVES modulo 60 come round: one seeks who is alike, another flees; most rest too soon all the same. */
    private boolean walkFar() {
        settle(12);
        String chase = "wish 50 p=0;most " + any(0, 49) + " p=1";
        String more = street();
        feedAll(chase.length() + more.length() < 100 ? chase + ";" + more : chase);
        if (m.run(100, 0) < 100) {
            return false;
        }
        all();
        for (int i = 0; i < 130; i++) {
            due("move()", x.move(), m.move());
            if (i % 3 == 0) {
                due("told(5)", x.told(5), m.told(5));
            }
        }
        all();
        endsInLife();
        return true;
    }

    private void endsInLife() {
        Check.holds(run + calls + " is not beyond an object's life", calls <= LONGEST_LIFE);
    }

    /** All that is asked of how all is. */
    private void all() {
        for (int what = 0; what <= 6; what++) {
            due("told(" + what + ")", x.told(what), m.told(what));
        }
        for (int p = 0; p < m.count(0); p++) {
            for (int what = 0; what <= 8; what++) {
                due("of(" + p + ", " + what + ")", x.of(p, what), m.of(p, what));
            }
            due("mixed(" + p + ")", x.mixed(p), m.mixed(p));
        }
        for (int h = 0; h < 8; h++) {
            due("neighbours(" + h + ")", x.neighbours(h), m.neighbours(h));
        }
        for (int what = 0; what <= 2; what++) {
            due("before(" + what + ")", x.before(what), m.before(what));
        }
        due("edge()", x.edge(), m.edge());
        due("begins()", x.begins(), m.begins());
        due("holds()", x.holds(), m.holds());
        due("few()", x.few(), m.few());
        due("mixed(-1)", x.mixed(-1), m.mixed(-1));
        due("rest()", x.rest(), m.rest());
        due("again()", x.again(), m.again());
        due("odds(2, 0)", x.odds(2, 0), m.odds(2, 0));
        due("odds(2, 1)", x.odds(2, 1), m.odds(2, 1));
    }

    private void call(int dice) {
        if (dice < 30) {
            askHow(dice);
        } else if (dice < 62) {
            change(dice - 30);
        } else {
            other(dice - 62);
        }
    }

    private void askHow(int dice) {
        int p = near(0, 5);
        int part = near(0, 1);
        if (dice < 6) {
            int what = near(0, 8);
            due("of(" + p + ", " + what + ")", x.of(p, what), m.of(p, what));
        } else if (dice < 9) {
            int what = near(0, 6);
            due("told(" + what + ")", x.told(what), m.told(what));
        } else if (dice < 14) {
            int n = random.nextBoolean() ? near(0, 6) : near(0, 100);
            int what = random.nextBoolean() ? near(0, 2) : near(10, 15);
            due("run(" + n + ", " + what + ")", x.run(n, what), m.run(n, what));
        } else if (dice == 14) {
            due("rest()", x.rest(), m.rest());
        } else if (dice == 15) {
            due("again()", x.again(), m.again());
        } else if (dice == 16) {
            int who = near(-1, 5);
            due("mixed(" + who + ")", x.mixed(who), m.mixed(who));
        } else if (dice == 17) {
            due("few()", x.few(), m.few());
        } else if (dice == 18) {
            due("edge()", x.edge(), m.edge());
        } else if (dice == 19) {
            due("begins()", x.begins(), m.begins());
        } else if (dice == 20) {
            due("holds()", x.holds(), m.holds());
        } else if (dice < 24) {
            int what = near(0, 2);
            due("before(" + what + ")", x.before(what), m.before(what));
        } else if (dice < 26) {
            int n = near(0, 2);
            due("odds(" + n + ", " + part + ")", x.odds(n, part), m.odds(n, part));
        } else if (dice < 28) {
            int quarter = near(0, 1);
            int sort = near(0, 2);
            due("quarter(" + quarter + ", " + sort + ", " + part + ")", x.quarter(quarter, sort, part), m.quarter(quarter, sort, part));
        } else {
            int h = near(0, 7);
            due("neighbours(" + h + ")", x.neighbours(h), m.neighbours(h));
        }
    }

    private void change(int dice) {
        if (dice < 3) {
            int n = near(3, 8);
            int shape = near(0, 2);
            due("town(" + n + ", " + shape + ")", x.town(n, shape), m.town(n, shape));
        } else if (dice < 7) {
            callPerson();
        } else if (dice < 13) {
            callPut();
        } else if (dice < 20) {
            due("move()", x.move(), m.move());
        } else if (dice < 22) {
            feedAll(random.nextInt(3) == 0 ? spoilt(street()) : street());
        } else if (dice == 22) {
            int sign = near(0, 127);
            due("feed(" + sign + ")", x.feed(sign), m.feed(sign));
        } else if (dice == 23) {
            due("image()", x.image(), m.image());
        } else if (dice == 24) {
            due("undo()", x.undo(), m.undo());
        } else if (dice < 30) {
            callBook();
        } else {
            due("looked()", x.looked(), m.looked());
        }
    }

    private void other(int dice) {
        int tape = near(0, 3);
        int i = near(0, 9);
        if (dice < 5) {
            int p = near(0, 5);
            int act = near(0, 2);
            int number = random.nextBoolean() ? any(-20, 20) : random.nextInt();
            due("act(" + p + ", " + act + ", " + number + ")", x.act(p, act, number), m.act(p, act, number));
            int ran = m.count(4);
            due("count(4)", x.count(4), ran);
            for (int body = -1; body <= ran; body++) {
                due("trace(" + body + ")", x.trace(body), m.trace(body));
            }
        } else if (dice < 8) {
            int p = near(0, 5);
            int k = near(0, 6);
            due("taken(" + p + ", " + k + ")", x.taken(p, k), m.taken(p, k));
        } else if (dice < 11) {
            int what = near(0, 4);
            due("count(" + what + ")", x.count(what), m.count(what));
        } else if (dice < 16) {
            int sort = random.nextBoolean() ? 4 : near(-1, 4);
            int n = random.nextInt(4) == 0 ? near(0, 60) : any(0, 12);
            due("tape(" + tape + ", " + sort + ", " + n + ")", x.tape(tape, sort, n), m.tape(tape, sort, n));
        } else if (dice < 23) {
            long v = random.nextBoolean() ? any(-1, 1) : random.nextLong() >> random.nextInt(64);
            due("item(" + tape + ", " + i + ", " + v + ")", x.item(tape, i, v), m.item(tape, i, v));
        } else if (dice < 27) {
            due("read(" + tape + ", " + i + ")", x.read(tape, i), m.read(tape, i));
        } else if (dice < 32) {
            int to = near(0, 3);
            int j = near(0, 9);
            int n = near(0, 5);
            due("shift(" + tape + ", " + i + ", " + to + ", " + j + ", " + n + ")", x.shift(tape, i, to, j, n), m.shift(tape, i, to, j, n));
            for (int place = 0; place < 12; place++) {
                due("read(" + to + ", " + place + ")", x.read(to, place), m.read(to, place));
            }
        } else {
            callJudge(tape, i);
        }
    }

    private void callPerson() {
        int kind = near(0, 6);
        int v = near(0, 9);
        int sort = random.nextInt(3) == 0 ? near(0, 2) : any(0, 1);
        int house = near(0, 7);
        due("person(" + kind + ", " + v + ", " + sort + ", " + house + ")", x.person(kind, v, sort, house), m.person(kind, v, sort, house));
    }

    private void callPut() {
        int p = near(0, 5);
        int house = near(0, 7);
        due("put(" + p + ", " + house + ")", x.put(p, house), m.put(p, house));
    }

    /** Half of the time the move that comes next, so that a BOOK is right for a while. */
    private void callBook() {
        int told = near(-1, 57);
        if (random.nextInt(3) > 0) {
            int known = m.count(2);
            Model.World then = m.world().behindRun(known);
            told = then.told() >= 0 ? then.told() : told;
        }
        due("book(" + told + ")", x.book(told), m.book(told));
        due("looked()", x.looked(), m.looked());
    }

    /** The TAPE is often first told who is CONTENT, so that the row is right for a while. */
    private void callJudge(int tape, int i) {
        if (tape >= 0 && tape < 6 && i >= 0 && i < 10 && random.nextInt(3) > 0) {
            int happy = m.told(5) ^ (random.nextInt(3) == 0 ? 1 << any(0, 5) : 0);
            due("tape", x.tape(tape, 4, 12), m.tape(tape, 4, 12));
            for (int p = 0; p < m.count(0); p++) {
                due("item", x.item(tape, i + p, happy >> p & 1), m.item(tape, i + p, happy >> p & 1));
            }
        }
        due("judge(" + tape + ", " + i + ")", x.judge(tape, i), m.judge(tape, i));
    }

    private void feedAll(String text) {
        for (int i = 0; i < text.length() && calls < LONGEST_LIFE - LAST_QUESTIONS; i++) {
            due("feed of '" + text + "'", x.feed(text.charAt(i)), m.feed(text.charAt(i)));
        }
        due("street of '" + text + "'", x.street(), m.street());
    }

    private String street() {
        StringBuilder all = new StringBuilder();
        for (int clauses = any(1, 4); clauses > 0; clauses--) {
            if (all.length() == 0 && random.nextInt(3) > 0) {
                all.append("wish ").append(any(34, 99)).append(' ');
                all.append(new String[] {"p<6", "s<2", "f>0", "m<9", "h<7", "p>0", "k<4", "s=0"}[random.nextInt(8)]);
            }
            all.append(all.length() == 0 ? "" : ";");
            all.append(new String[] {"wish", "wish", "most", "dear"}[random.nextInt(4)]);
            all.append(' ').append(any(0, 99)).append(' ').append(either(0));
        }
        return all.length() > 100 ? street() : all.toString();
    }

    private String either(int nested) {
        StringBuilder e = new StringBuilder(part(nested));
        for (int more = any(0, 5) / 4; more > 0; more--) {
            e.append(random.nextBoolean() ? '|' : '&').append(part(nested));
        }
        return e.toString();
    }

    private String part(int nested) {
        int dice = random.nextInt(8);
        if (dice == 0 && nested < 4) {
            return "!" + part(nested + 1);
        }
        if (dice == 1 && nested < 4) {
            return "(" + either(nested + 1) + ")";
        }
        int letter = random.nextInt(6);
        int most = new int[] {6, 2, 6, 8, 5, 6}[letter];
        int number = random.nextInt(12) == 0 ? any(0, 99) : any(0, most);
        return "" + "pskhfm".charAt(letter) + "<=>".charAt(random.nextInt(3)) + number;
    }

    private String spoilt(String text) {
        int at = random.nextInt(text.length() + 1);
        char sign = "wishmostdear ;|&!()pskhfm<=>0123456789x".charAt(random.nextInt(38));
        int end = random.nextInt(3) == 0 || at == text.length() ? at : at + 1;
        return text.substring(0, at) + (random.nextInt(4) == 0 ? "" : "" + sign) + text.substring(end);
    }
}
