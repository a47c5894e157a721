import java.util.ArrayList;
import java.util.List;

/**
 * "What is answered so changes nothing; what is asked changes nothing": behind each call that is refused, and each that
 * asks, an object answers all that can be asked as one answers on which the call was not done.
 */
public final class UnchangedTest {
    private static final int NONE = ThirdAlike.NONE, BAD = ThirdAlike.BAD, STATE = ThirdAlike.STATE, FULL = ThirdAlike.FULL;
    private static final int NOTHING = -11, CAST = -12, PLACE = -13, SIZE = -14;
    private static final long NO = ThirdAlike.NO;
    private static final int LONGEST_LIFE = 512;

    private interface Call {
        long on(ThirdAlike x);
    }

    private interface Maker {
        ThirdAlike make();
    }

    private final Maker maker;
    private final List<Long> due;

    private UnchangedTest(Maker maker) {
        this.maker = maker;
        due = whole(maker.make());
        Check.holds("no object is used for more than 512 calls", due.size() + 200 <= LONGEST_LIFE);
    }

    public static void main(String[] args) {
        UnchangedTest rich = new UnchangedTest(UnchangedTest::rich);
        rich.refusedTownsAndPeople();
        rich.refusedQuestions();
        rich.refusedTapes();
        rich.askedOfHouses();
        rich.askedOfMoves();
        rich.askedOfTapes();
        new UnchangedTest(UnchangedTest::full).refusedByFull();
        UnchangedTest still = new UnchangedTest(UnchangedTest::still);
        still.refused("26: undo, there is none", STATE, x -> x.undo());
        still.refused("10: move, nobody does", -5, x -> x.move());
        Check.end();
    }

    // ---- objects

    /** Three who never rest, behind two MOVES; something of all that can be is there. */
    private static ThirdAlike rich() {
        ThirdAlike x = Check.chase("");
        x.image();
        x.move();
        x.move();
        x.book(10);
        x.book(1);
        x.tape(0, 0, 3);
        x.item(0, 1, 7);
        x.tape(1, 4, 4);
        x.item(1, 0, 1);
        x.tape(2, 0, 2);
        x.act(1, 2, 3);
        for (char sign : "wish 7".toCharArray()) {
            x.feed(sign);
        }
        return x;
    }

    /** As much as can be of all that is bounded, but one free HOUSE. */
    private static ThirdAlike full() {
        ThirdAlike x = Check.live(7, 1, "", 0, 0, 0, 0, 1, 0, 1, 1, 2, 0, 0, 2, 3, 0, 1, 3, 4, 0, 2, 4, 5, 0, 0, 5);
        for (int i = 0; i < 6; i++) {
            Check.street(x, "most 9" + i + " p=0");
        }
        for (int i = 0; i < 12; i++) {
            x.book(i % 8);
        }
        for (int i = 0; i < 100; i++) {
            x.feed('w');
        }
        return x;
    }

    private static ThirdAlike still() {
        return Check.live(3, 0, "", 0, 0, 0, 0, 0, 0, 1, 1);
    }

    // ---- all that can be asked

    private static List<Long> whole(ThirdAlike x) {
        List<Long> all = new ArrayList<>();
        askHowAllIs(x, all);
        askOfMoves(x, all);
        askOfTapes(x, all);
        for (char sign : " p=0".toCharArray()) {
            all.add((long) x.feed(sign));
        }
        all.add((long) x.street());
        all.add((long) x.of(0, 4));
        all.add((long) x.move());
        all.add((long) x.undo());
        askHowAllIs(x, all);
        return all;
    }

    private static void askHowAllIs(ThirdAlike x, List<Long> all) {
        for (int what = 0; what <= 6; what++) {
            all.add((long) x.told(what));
        }
        for (int what = 0; what <= 4; what++) {
            all.add((long) x.count(what));
        }
        for (int p = 0; p < x.count(0); p++) {
            for (int what = 0; what <= 8; what++) {
                all.add((long) x.of(p, what));
            }
        }
        all.add((long) x.neighbours(0));
        all.add((long) x.looked());
    }

    private static void askOfMoves(ThirdAlike x, List<Long> all) {
        all.add((long) x.run(3, 0));
        all.add((long) x.run(3, 1));
        all.add((long) x.rest());
        all.add((long) x.again());
        all.add((long) x.mixed(-1));
        all.add((long) x.mixed(0));
        all.add((long) x.few());
        all.add((long) x.edge());
        all.add((long) x.begins());
        all.add((long) x.holds());
        all.add((long) x.before(0));
        all.add(x.odds(1, 0));
        all.add(x.quarter(0, 0, 0));
    }

    private static void askOfTapes(ThirdAlike x, List<Long> all) {
        for (int tape = 0; tape < 6; tape++) {
            for (int i = 0; i < 4; i++) {
                all.add(x.read(tape, i));
            }
            all.add((long) x.judge(tape, 0));
        }
        for (int i = 0; i <= 12; i++) {
            all.add((long) x.trace(i));
        }
    }

    // ---- the calls

    private void refused(String which, long answer, Call call) {
        ThirdAlike x = maker.make();
        Check.due(which, call.on(x), answer);
        Check.holds(which + ": what is answered so changes nothing", whole(x).equals(due));
    }

    private void asked(String which, Call call) {
        ThirdAlike x = maker.make();
        call.on(x);
        Check.holds(which + ": what is asked changes nothing", whole(x).equals(due));
    }

    private void refusedTownsAndPeople() {
        refused("2: town, SHAPE 3", NONE, x -> x.town(7, 3));
        refused("2: town, n 2", BAD, x -> x.town(2, 0));
        refused("2: town, somebody lives in 3", STATE, x -> x.town(3, 0));
        refused("3: neighbours, of HOUSE 5 of five", NONE, x -> x.neighbours(5));
        refused("4: person, KIND 7", NONE, x -> x.person(7, 0, 0, 1));
        refused("4: person, SORT 3", NONE, x -> x.person(0, 0, 3, 1));
        refused("4: person, HOUSE 5 of five", NONE, x -> x.person(0, 0, 0, 5));
        refused("4: person, v 10", BAD, x -> x.person(0, 10, 0, 1));
        refused("4: person, somebody lives there", STATE, x -> x.person(0, 0, 0, 2));
        refused("5: of, no such one", -10001, x -> x.of(3, 0));
        refused("5: of, what 9", -10001, x -> x.of(0, 9));
        refused("6: put, no such one", NONE, x -> x.put(3, 1));
        refused("6: put, HOUSE 5 of five", NONE, x -> x.put(0, 5));
        refused("6: put, somebody lives there", STATE, x -> x.put(0, 3));
        refused("6: put, they live there themselves", STATE, x -> x.put(0, 2));
        refused("7: feed, sign 128", BAD, x -> x.feed(128));
        refused("7: feed, sign -1", BAD, x -> x.feed(-1));
        refused("9: told, what 7", NONE, x -> x.told(7));
    }

    private void refusedQuestions() {
        refused("11: run, what 3", -10001, x -> x.run(5, 3));
        refused("11: run, n 101", -10002, x -> x.run(101, 0));
        refused("14: mixed, of no such one", -10001, x -> x.mixed(3));
        refused("19: before, what 3", NONE, x -> x.before(3));
        refused("20: odds, n 3", NO, x -> x.odds(3, 0));
        refused("20: odds, part 2", NO, x -> x.odds(2, 2));
        refused("21: quarter, 2", NO, x -> x.quarter(2, 0, 0));
        refused("21: quarter, SORT 3", NO, x -> x.quarter(0, 3, 0));
        refused("21: quarter, part 2", NO, x -> x.quarter(0, 0, 2));
        refused("22: book, 58", NONE, x -> x.book(58));
        refused("22: book, -2", NONE, x -> x.book(-2));
        refused("24: judge, TAPE 6", NONE, x -> x.judge(6, 0));
        refused("24: judge, no row of booleans", CAST, x -> x.judge(0, 0));
        refused("28: trace, -1", NONE, x -> x.trace(-1));
        refused("28: trace, behind the last body", NONE, x -> x.trace(12));
        refused("29: taken, k 7", BAD, x -> x.taken(0, 7));
        refused("29: taken, no such one", NOTHING, x -> x.taken(3, 0));
        refused("29: taken, of another KIND", CAST, x -> x.taken(0, 1));
        refused("30: count, what 5", BAD, x -> x.count(5));
    }

    private void refusedTapes() {
        refused("31: tape, TAPE 6", NONE, x -> x.tape(6, 0, 1));
        refused("31: tape, sort 5", BAD, x -> x.tape(0, 5, 1));
        refused("31: tape, n 61", BAD, x -> x.tape(0, 0, 61));
        refused("31: tape, n -1", SIZE, x -> x.tape(0, 0, -1));
        refused("32: item, TAPE 6", NONE, x -> x.item(6, 0, 1));
        refused("32: item, the TAPE holds nothing", NOTHING, x -> x.item(5, 0, 1));
        refused("32: item, place 3 of three", PLACE, x -> x.item(0, 3, 1));
        refused("33: read, place 3 of three", NO, x -> x.read(0, 3));
        refused("34: shift, to TAPE 6", NONE, x -> x.shift(0, 0, 6, 0, 1));
        refused("34: shift, to one that holds nothing", NOTHING, x -> x.shift(0, 0, 5, 0, 1));
        refused("34: shift, of unlike sorts", CAST, x -> x.shift(0, 1, 1, 1, 1));
        refused("34: shift, beyond the end of the other one", PLACE, x -> x.shift(0, 0, 2, 0, 3));
        refused("34: shift, beyond the end of the first", PLACE, x -> x.shift(2, 1, 0, 0, 2));
    }

    private void refusedByFull() {
        refused("4: person, a seventh", FULL, x -> x.person(0, 0, 0, 6));
        refused("7: feed, a 101st", FULL, x -> x.feed('w'));
        refused("8: street, a seventh", FULL, x -> x.street());
        refused("22: book, a 13th", FULL, x -> x.book(0));
    }

    private void askedOfHouses() {
        asked("3: neighbours", x -> x.neighbours(0));
        for (int i = 0; i <= 8; i++) {
            int what = i;
            asked("5: of, what " + what, x -> x.of(1, what));
        }
        for (int i = 0; i <= 6; i++) {
            int what = i;
            asked("9: told, what " + what, x -> x.told(what));
        }
    }

    private void askedOfMoves() {
        int[] whats = {0, 1, 2, 10, 12};
        for (int what : whats) {
            asked("11: run, n 7, what " + what, x -> x.run(7, what));
        }
        asked("12: rest", x -> x.rest());
        asked("13: again", x -> x.again());
        asked("14: mixed, LIKE PAIRS", x -> x.mixed(-1));
        asked("14: mixed, the HOUSE of 1", x -> x.mixed(1));
        asked("15: few", x -> x.few());
        asked("16: edge", x -> x.edge());
        asked("17: begins", x -> x.begins());
        asked("18: holds", x -> x.holds());
        for (int i = 0; i <= 2; i++) {
            int what = i;
            asked("19: before, what " + what, x -> x.before(what));
            asked("20: odds, n " + what, x -> x.odds(what, 0));
        }
        asked("21: quarter", x -> x.quarter(1, 1, 1));
        asked("23: looked", x -> x.looked());
    }

    private void askedOfTapes() {
        asked("24: judge, otherwise", x -> x.judge(1, 0));
        asked("24: judge, the row ends", x -> x.judge(1, 3));
        asked("24: judge, the place is below 0", x -> x.judge(1, -1));
        asked("24: judge, the TAPE holds nothing", x -> x.judge(5, 0));
        asked("28: trace", x -> x.trace(0));
        asked("29: taken", x -> x.taken(1, 0));
        for (int i = 0; i <= 4; i++) {
            int what = i;
            asked("30: count, what " + what, x -> x.count(what));
        }
        asked("33: read", x -> x.read(0, 1));
    }
}
