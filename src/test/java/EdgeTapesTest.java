/**
 * The boundary cases that the promises 20 to 34 name, and the terms behind them: odds, quarter, book, looked, judge, image,
 * undo, act, trace, taken, count, tape, item, read, shift. In a RING of five every HOUSE is a NEIGHBOUR of every other one.
 */
public final class EdgeTapesTest {
    private static final int LOW = Check.LOW, HIGH = Check.HIGH;
    private static final int RING = 0, ROW = 1;
    private static final int NONE = ThirdAlike.NONE, BAD = ThirdAlike.BAD, STATE = ThirdAlike.STATE, FULL = ThirdAlike.FULL;
    private static final int NOTHING = -11, CAST = -12, PLACE = -13, SIZE = -14;
    private static final long NO = ThirdAlike.NO;
    private static final int BYTES = 0, SHORTS = 1, INTS = 2, LONGS = 3, BOOLEANS = 4;

    public static void main(String[] args) {
        odds();
        oddsRefuses();
        quarter();
        quarterRefuses();
        book();
        bookRefuses();
        looked();
        lookedAtAll();
        judge();
        judgeBeyondTheRow();
        judgeRefuses();
        image();
        undo();
        undoOfTheLatest();
        act();
        actWraps();
        actRefuses();
        trace();
        taken();
        takenRefuses();
        count();
        tape();
        tapeRefuses();
        itemOfEachSort();
        itemRefuses();
        read();
        shift();
        shiftWithinOne();
        shiftRefuses();
        shiftBeyondTheEnds();
        Check.end();
    }

    /** 0, a MOVER of SORT 0 in HOUSE 2 of a RING of five, 1 of SORT 1 in 4. */
    private static ThirdAlike two(String text) {
        return Check.live(5, RING, text, 0, 0, 0, 2, 0, 0, 1, 4);
    }

    private static ThirdAlike three(String text) {
        return Check.live(3, RING, text, 0, 0, 0, 0, 0, 0, 1, 1, 0, 0, 2, 2);
    }

    // ---- odds, quarters

    private static void oddsAre(String which, ThirdAlike x, int n, int above, int below) {
        Check.due("20: odds, " + which + ", n " + n + ", above the line", x.odds(n, 0), above);
        Check.due("20: odds, " + which + ", n " + n + ", below the line", x.odds(n, 1), below);
    }

    private static void odds() {
        ThirdAlike x = two("wish 50 p=0&!h=0");
        oddsAre("not CONTENT now", x, 0, 0, 1);
        oddsAre("0 to HOUSE 0 alone", x, 1, 1, 6);
        oddsAre("from where all live then", x, 2, 7, 36);
        Check.due("20: odds, changes nothing", x.of(0, 3) * 10 + x.of(1, 3), 24);
        ThirdAlike there = two("wish 50 p=0&!h=2");
        oddsAre("CONTENT now", there, 0, 1, 1);
        oddsAre("in lowest terms", there, 1, 1, 2);
        oddsAre("the HOUSE one left is free then", there, 2, 1, 3);
        oddsAre("never", two("wish 50 p=0"), 2, 0, 1);
        oddsAre("always", two("wish 0 p=0"), 2, 1, 1);
        oddsAre("MOVES as they are", two("wish 50 m>0"), 2, 1, 1);
        oddsAre("no free HOUSE, not CONTENT", three(""), 1, 0, 1);
        oddsAre("no free HOUSE, all CONTENT", three("wish 0 p<9"), 1, 1, 1);
        oddsAre("no free HOUSE, all CONTENT", three("wish 0 p<9"), 2, 1, 1);
        oddsAre("nobody", new ThirdAlike(), 1, 1, 1);
        oddsAre("nobody", new ThirdAlike(), 0, 1, 1);
    }

    private static void oddsRefuses() {
        ThirdAlike x = two("wish 0 p=0");
        Check.due("20: odds, n 3", x.odds(3, 0), NO);
        Check.due("20: odds, n -1", x.odds(-1, 0), NO);
        Check.due("20: odds, the least n of all", x.odds(LOW, 0), NO);
        Check.due("20: odds, the greatest n of all", x.odds(HIGH, 0), NO);
        Check.due("20: odds, part 2", x.odds(0, 2), NO);
        Check.due("20: odds, part -1", x.odds(0, -1), NO);
        Check.due("20: odds, the least part of all", x.odds(0, LOW), NO);
        Check.due("20: odds, the greatest part of all", x.odds(0, HIGH), NO);
        Check.due("20: odds, part 2, nobody there", new ThirdAlike().odds(0, 2), NO);
    }

    private static void quarterIs(String which, ThirdAlike x, int quarter, int sort, int above, int below) {
        Check.due("21: quarter, " + which + ", above the line", x.quarter(quarter, sort, 0), above);
        Check.due("21: quarter, " + which + ", below the line", x.quarter(quarter, sort, 1), below);
    }

    private static void quarter() {
        ThirdAlike seven = Check.live(7, RING, "", 0, 0, 0, 2, 0, 0, 1, 3, 0, 0, 1, 6);
        quarterIs("of 7 HOUSES 0 .. 2, cut: 2 is the last", seven, 0, 0, 1, 1);
        quarterIs("of 7 HOUSES 3 .. 6, cut: 3 is the first", seven, 1, 1, 1, 1);
        quarterIs("of 7 HOUSES 3 .. 6, none of the SORT", seven, 1, 0, 0, 1);
        ThirdAlike eight = Check.live(8, RING, "", 0, 0, 0, 3, 0, 0, 1, 4, 0, 0, 2, 7, 0, 0, 0, 0);
        quarterIs("of 8 HOUSES 0 .. 3", eight, 0, 0, 1, 1);
        quarterIs("of 8 HOUSES 4 .. 7, SORT 2", eight, 1, 2, 1, 2);
        quarterIs("of 8 HOUSES 4 .. 7, SORT 1", eight, 1, 1, 1, 2);
        ThirdAlike small = three("");
        quarterIs("of 3 HOUSES 0 alone", small, 0, 0, 1, 1);
        quarterIs("of 3 HOUSES 1 and 2", small, 1, 1, 1, 2);
        ThirdAlike lowest = Check.live(8, RING, "", 0, 0, 0, 4, 0, 0, 0, 5, 0, 0, 1, 6, 0, 0, 1, 7);
        quarterIs("in lowest terms", lowest, 1, 1, 1, 2);
        Check.due("21: quarter, nobody lives there, above the line", lowest.quarter(0, 0, 0), NO);
        Check.due("21: quarter, nobody lives there, below the line", lowest.quarter(0, 0, 1), NO);
        Check.due("21: quarter, nobody at all", new ThirdAlike().quarter(0, 0, 0), NO);
    }

    private static void quarterRefuses() {
        ThirdAlike x = Check.live(8, RING, "", 0, 0, 0, 0, 0, 0, 0, 7);
        Check.due("21: quarter, SORT 2, of whom none is there", x.quarter(0, 2, 0), 0);
        Check.due("21: quarter, 2", x.quarter(2, 0, 0), NO);
        Check.due("21: quarter, -1", x.quarter(-1, 0, 0), NO);
        Check.due("21: quarter, the least of all", x.quarter(LOW, 0, 0), NO);
        Check.due("21: quarter, the greatest of all", x.quarter(HIGH, 0, 0), NO);
        Check.due("21: quarter, SORT 3", x.quarter(0, 3, 0), NO);
        Check.due("21: quarter, SORT -1", x.quarter(0, -1, 0), NO);
        Check.due("21: quarter, the greatest SORT of all", x.quarter(0, HIGH, 0), NO);
        Check.due("21: quarter, part 2", x.quarter(0, 0, 2), NO);
        Check.due("21: quarter, part -1", x.quarter(0, 0, -1), NO);
        Check.due("21: quarter, the least part of all", x.quarter(0, 0, LOW), NO);
    }

    // ---- books

    private static void book() {
        ThirdAlike x = new ThirdAlike();
        Check.due("22: book, -1, empty already", x.book(-1), 0);
        Check.due("22: book, 0, who 0 to HOUSE 0", x.book(0), 1);
        Check.due("22: book, 7, who 0 to HOUSE 7", x.book(7), 2);
        Check.due("22: book, 50, who 5 to HOUSE 0", x.book(50), 3);
        Check.due("22: book, 57, who 5 to HOUSE 7", x.book(57), 4);
        for (int i = 5; i <= 12; i++) {
            Check.due("22: book, move " + i, x.book(10), i);
        }
        Check.due("22: book, a 13th", x.book(10), FULL);
        Check.due("22: book, refused: twelve stay", x.count(2), 12);
        Check.due("22: book, no such move is named ahead of 12", x.book(58), NONE);
        Check.due("22: book, -1 of a full one: it is empty then", x.book(-1), 0);
        Check.due("22: book, none is left", x.count(2), 0);
        Check.due("22: book, the first again", x.book(10), 1);
        ThirdAlike houses = Check.live(3, RING, "");
        Check.due("22: book, of who is not there, and of no HOUSE there", houses.book(57), 1);
    }

    private static void bookRefuses() {
        ThirdAlike x = new ThirdAlike();
        Check.due("22: book, -2", x.book(-2), NONE);
        Check.due("22: book, 8, HOUSE 8", x.book(8), NONE);
        Check.due("22: book, 9, HOUSE 9", x.book(9), NONE);
        Check.due("22: book, 18, HOUSE 8", x.book(18), NONE);
        Check.due("22: book, 58, HOUSE 8", x.book(58), NONE);
        Check.due("22: book, 60, who 6", x.book(60), NONE);
        Check.due("22: book, 67, who 6 to HOUSE 7", x.book(67), NONE);
        Check.due("22: book, the least of all", x.book(LOW), NONE);
        Check.due("22: book, the greatest of all", x.book(HIGH), NONE);
        Check.due("22: book, refused: it stays empty", x.count(2), 0);
    }

    private static void looked() {
        Check.due("23: looked, the empty BOOK, nobody there", new ThirdAlike().looked(), -5);
        ThirdAlike x = Check.chase("");
        Check.due("23: looked, the empty BOOK", x.looked(), -5);
        x.book(13);
        Check.due("23: looked, none is otherwise, who goes first, of SWAP, and whereto", x.looked(), -5);
        x.book(2);
        x.book(20);
        Check.due("23: looked, of SWAP the other one is otherwise", x.looked(), 2);
        x.book(0);
        Check.due("23: looked, of two that are otherwise the first", x.looked(), 2);
        x.move();
        Check.due("23: looked, from how all is now: 0", x.looked(), 0);
        ThirdAlike rests = two("wish 50 p=0&h=2");
        rests.book(0);
        Check.due("23: looked, the one MOVE", rests.looked(), -5);
        rests.book(0);
        Check.due("23: looked, nobody moves then", rests.looked(), 1);
        Check.due("23: looked, changes nothing", rests.told(2), 0);
        ThirdAlike nobody = new ThirdAlike();
        nobody.book(0);
        Check.due("23: looked, nobody moves, of nobody", nobody.looked(), 0);
    }

    private static void lookedAtAll() {
        int[] moves = {13, 2, 10, 1};
        ThirdAlike x = Check.chase("");
        for (int i = 0; i < 12; i++) {
            x.book(moves[i % 4]);
        }
        Check.due("23: looked, twelve, none is otherwise", x.looked(), -5);
        ThirdAlike last = Check.chase("");
        for (int i = 0; i < 11; i++) {
            last.book(moves[i % 4]);
        }
        last.book(0);
        Check.due("23: looked, the twelfth is otherwise", last.looked(), 11);
    }

    // ---- judging

    /** Of three the first and the last are CONTENT. */
    private static ThirdAlike judged(int... row) {
        ThirdAlike x = Check.live(5, RING, "wish 50 p=1", 0, 0, 0, 0, 0, 0, 1, 1, 0, 0, 0, 2);
        x.tape(0, BOOLEANS, row.length);
        for (int i = 0; i < row.length; i++) {
            x.item(0, i, row[i]);
        }
        return x;
    }

    private static void judge() {
        Check.due("24: judge, none is otherwise", judged(1, 0, 1).judge(0, 0), -5);
        Check.due("24: judge, none is otherwise, the row is longer", judged(1, 0, 1, 1).judge(0, 0), -5);
        Check.due("24: judge, the first is otherwise", judged(0, 0, 1).judge(0, 0), 0);
        Check.due("24: judge, the last is otherwise", judged(1, 0, 0).judge(0, 0), 2);
        Check.due("24: judge, of two that are otherwise the first", judged(1, 1, 0).judge(0, 0), 1);
        Check.due("24: judge, from place 1 on", judged(0, 1, 0, 1).judge(0, 1), -5);
        ThirdAlike nobody = new ThirdAlike();
        Check.due("24: judge, none to look at, the TAPE holds nothing", nobody.judge(5, 0), -5);
        nobody.tape(0, BOOLEANS, 0);
        Check.due("24: judge, none to look at, no items", nobody.judge(0, 0), -5);
        Check.due("24: judge, none to look at, though the place is below 0", nobody.judge(0, -1), -5);
    }

    private static void judgeBeyondTheRow() {
        Check.due("24: judge, the row ends ahead of the last: 2 were looked at", judged(1, 0).judge(0, 0), 102);
        Check.due("24: judge, the row ends ahead of the second: 1 was looked at", judged(1).judge(0, 0), 101);
        Check.due("24: judge, no items: 0 were looked at", judged().judge(0, 0), 100);
        Check.due("24: judge, one who is otherwise ahead of the row's end", judged(1, 1).judge(0, 0), 1);
        Check.due("24: judge, from the last place on", judged(0, 0, 1).judge(0, 2), 101);
        Check.due("24: judge, from behind the last place on", judged(1, 0, 1).judge(0, 3), 100);
        Check.due("24: judge, from the greatest place of all", judged(1, 0, 1).judge(0, HIGH), 100);
        Check.due("24: judge, the place is -1", judged(1, 0, 1).judge(0, -1), 100);
        Check.due("24: judge, the least place of all", judged(1, 0, 1).judge(0, LOW), 100);
        Check.due("24: judge, the TAPE holds nothing", judged(1, 0, 1).judge(5, 0), 100);
        ThirdAlike emptied = judged(1, 0, 1);
        emptied.tape(0, -1, 3);
        Check.due("24: judge, the TAPE holds nothing any more", emptied.judge(0, 0), 100);
    }

    private static void judgeRefuses() {
        ThirdAlike x = judged(1, 0, 1);
        Check.due("24: judge, TAPE 6", x.judge(6, 0), NONE);
        Check.due("24: judge, TAPE -1", x.judge(-1, 0), NONE);
        Check.due("24: judge, the least TAPE of all", x.judge(LOW, 0), NONE);
        Check.due("24: judge, the greatest TAPE of all", x.judge(HIGH, 0), NONE);
        for (int sort = BYTES; sort <= LONGS; sort++) {
            x.tape(1, sort, 3);
            Check.due("24: judge, it is no row of booleans, but of sort " + sort, x.judge(1, 0), CAST);
        }
        Check.due("24: judge, CAST is named, though the place is below 0", x.judge(1, -1), CAST);
        x.tape(1, BYTES, 0);
        Check.due("24: judge, CAST is named, though there are no items", x.judge(1, 0), CAST);
        ThirdAlike nobody = new ThirdAlike();
        nobody.tape(1, BYTES, 3);
        Check.due("24: judge, CAST is named, though there is none to look at", nobody.judge(1, 0), CAST);
    }

    // ---- the image

    private static void image() {
        ThirdAlike x = new ThirdAlike();
        Check.due("25: image, of nobody", x.image(), 0);
        for (int p = 0; p < 6; p++) {
            x.person(0, 0, 0, p);
        }
        Check.due("25: image, of six", x.image(), 6);
        Check.due("25: image, changes nothing", x.count(0), 6);
        Check.due("26: undo, of the newest image", x.undo(), 6);
    }

    private static void undo() {
        ThirdAlike none = Check.live(8, RING, "", 0, 0, 0, 0);
        Check.due("26: undo, there is none", none.undo(), STATE);
        Check.due("26: undo, there is none: all stay", none.count(0), 1);
        ThirdAlike x = Check.live(7, ROW, "wish 50 p=0&h=0", 4, 3, 0, 0, 0, 0, 1, 1);
        x.move();
        x.book(57);
        x.image();
        x.put(0, 6);
        x.person(6, 9, 2, 3);
        x.town(8, 2);
        x.move();
        x.book(-1);
        x.book(11);
        x.book(12);
        Check.street(x, "wish 7 p=0");
        for (int again = 1; again <= 2; again++) {
            String which = "26: undo, " + (again == 1 ? "" : "once more, ");
            Check.due(which + "how many PEOPLE", x.undo(), 2);
            Check.due(which + "how many HOUSES", x.told(0), 7);
            Check.due(which + "SHAPE", x.told(1), 1);
            Check.due(which + "NEIGHBOURS", x.neighbours(0), 0b110);
            Check.due(which + "MOVES", x.told(2), 1);
            Check.due(which + "PEOPLE, who came later is gone", x.of(2, 0), -10001);
            Check.due(which + "PEOPLE, KIND", x.of(0, 0), 4);
            Check.due(which + "PEOPLE, v", x.of(0, 1), 3);
            Check.due(which + "PEOPLE, SORT", x.of(1, 2), 1);
            Check.due(which + "PEOPLE, HOUSE", x.of(0, 3), 2);
            Check.due(which + "the BOOK", x.count(2), 1);
            Check.due(which + "which STREET holds", x.of(0, 4), 0);
            x.put(0, 5);
            x.person(1, 1, 1, 4);
            x.town(8, 0);
            x.book(13);
        }
    }

    private static void undoOfTheLatest() {
        ThirdAlike x = Check.live(8, RING, "", 0, 0, 0, 0);
        x.image();
        x.put(0, 3);
        x.image();
        x.put(0, 5);
        Check.due("26: undo, of the latest of two", x.undo(), 1);
        Check.due("26: undo, of the latest of two: HOUSE", x.of(0, 3), 3);
        Check.street(x, "wish 7 p=0");
        Check.due("26: undo, no STREET held then", x.undo(), 1);
        Check.due("26: undo, no STREET holds again", x.of(0, 4), 33);
        Check.due("26: undo, the STREETS there are stay", x.count(1), 1);
        Check.due("26: undo, the next STREET's number goes on", Check.street(x, "wish 8 p=0"), 1);
        Check.due("26: undo, the next STREET holds", x.of(0, 4), 8);
        ThirdAlike booked = two("wish 50 p=0&h=2");
        booked.book(0);
        booked.image();
        booked.book(-1);
        booked.book(1);
        booked.undo();
        Check.due("26: undo, what is in the BOOK", booked.looked(), -5);
    }

    // ---- acts

    /** Of one of a KIND, the third to come, with v 5. */
    private static void actIs(int kind, int act, int x, int due, int... bodies) {
        ThirdAlike town = Check.live(8, RING, "", 0, 0, 0, 0, 0, 0, 0, 1, kind, 5, 0, 2);
        String which = "KIND " + kind + ", act " + act + " with " + x;
        Check.due("27: act, " + which, town.act(2, act, x), due);
        Check.due("30: count, bodies of " + which, town.count(4), bodies.length);
        for (int i = 0; i < bodies.length; i++) {
            Check.due("28: trace, body " + i + " of " + which, town.trace(i), bodies[i]);
        }
        Check.due("28: trace, no body more of " + which, town.trace(bodies.length), NONE);
    }

    private static void act() {
        actIs(0, 0, 0, 2, 10);
        actIs(0, 1, 0, -3, 11, 10);
        actIs(0, 2, 0, -6, 12, 11, 10);
        actIs(1, 1, 0, -3 ^ 6, 20, 11, 10);
        actIs(2, 0, 1, 5, 30, 10);
        actIs(3, 2, 0, -6 - 2, 40, 12, 11, 10, 11, 10);
        actIs(4, 0, 0, -2, 50, 10);
        actIs(4, 1, 0, -8 ^ 6, 51, 20, 11, 50, 10);
        actIs(5, 2, 2, -6, 60, 12, 11, 30, 10);
        actIs(6, 0, 0, 2 ^ 5, 71, 10);
        actIs(6, 1, 0, (2 ^ 5) - 5 + 4, 70, 11, 71, 10, 10);
        actIs(6, 2, 0, 12 + (3 ^ 5) - 5 + 4, 40, 12, 70, 11, 71, 10, 10, 70, 11, 71, 10, 10);
    }

    private static void actWraps() {
        actIs(0, 0, HIGH, LOW + 1, 10);
        actIs(0, 1, LOW, LOW + 2 - 5, 11, 10);
        actIs(0, 2, 1 << 30, 2 * (2 - 5) + (1 << 31), 12, 11, 10);
        actIs(2, 0, HIGH, HIGH * 3 + 2, 30, 10);
        actIs(4, 1, HIGH, (-(LOW + 2) - 5) ^ 6, 51, 20, 11, 50, 10);
        actIs(5, 2, LOW, ((LOW - 2) * 3 + 2 - 5) * 2, 60, 12, 11, 30, 10);
        ThirdAlike first = Check.live(8, RING, "", 4, 0, 0, 0);
        Check.due("27: act, PRICE, number 0, looks with the least of all, whose negative is itself", first.act(0, 0, LOW), LOW);
    }

    private static void actRefuses() {
        ThirdAlike x = Check.live(8, RING, "", 0, 0, 0, 0, 0, 0, 0, 1);
        int[][] none = {{2, 0}, {-1, 0}, {6, 0}, {LOW, 0}, {HIGH, 0}, {0, 3}, {0, -1}, {0, LOW}, {0, HIGH}};
        for (int[] row : none) {
            String which = "one " + row[0] + ", act " + row[1];
            Check.due("27: act, of the last one", x.act(1, 2, 4), 10);
            Check.due("28: trace, of the last one", x.trace(2), 10);
            Check.due("27: act, no such one, act: " + which, x.act(row[0], row[1], 9), 0);
            Check.due("27: act, no TRACE then: " + which, x.trace(0), NONE);
            Check.due("30: count, no body ran then: " + which, x.count(4), 0);
        }
        Check.due("27: act, nobody there", new ThirdAlike().act(0, 0, 9), 0);
    }

    private static void trace() {
        ThirdAlike x = Check.live(8, RING, "", 6, 0, 0, 0);
        Check.due("28: trace, ahead of any act", x.trace(0), NONE);
        x.act(0, 2, 0);
        Check.due("28: trace, 0, the first body", x.trace(0), 40);
        Check.due("28: trace, 11, the last of the most that run", x.trace(11), 10);
        Check.due("28: trace, 12, behind the last", x.trace(12), NONE);
        Check.due("28: trace, 19", x.trace(19), NONE);
        Check.due("28: trace, 20, beyond what is kept", x.trace(20), NONE);
        Check.due("28: trace, -1", x.trace(-1), NONE);
        Check.due("28: trace, the least of all", x.trace(LOW), NONE);
        Check.due("28: trace, the greatest of all", x.trace(HIGH), NONE);
        x.act(0, 0, 0);
        Check.due("28: trace, of the latest act", x.trace(0), 71);
        Check.due("28: trace, of the latest act alone", x.trace(2), NONE);
    }

    private static void taken() {
        int[][] due = {{0}, {1, 0}, {2, 0}, {3, 0}, {4, 1, 0}, {5, 2, 0}, {6, 3, 0}};
        for (int kind = 0; kind < 7; kind++) {
            ThirdAlike x = Check.live(8, RING, "", kind, 0, 0, 0);
            int[] answers = {CAST, CAST, CAST, CAST, CAST, CAST, CAST};
            for (int k : due[kind]) {
                answers[k] = kind;
            }
            for (int k = 0; k < 7; k++) {
                Check.due("29: taken, one of KIND " + kind + " for one of KIND " + k, x.taken(0, k), answers[k]);
            }
        }
    }

    private static void takenRefuses() {
        ThirdAlike x = Check.live(8, RING, "", 6, 0, 0, 0);
        Check.due("29: taken, k 7", x.taken(0, 7), BAD);
        Check.due("29: taken, k -1", x.taken(0, -1), BAD);
        Check.due("29: taken, the least k of all", x.taken(0, LOW), BAD);
        Check.due("29: taken, the greatest k of all", x.taken(0, HIGH), BAD);
        Check.due("29: taken, no such one, 1 of one", x.taken(1, 0), NOTHING);
        Check.due("29: taken, no such one, -1", x.taken(-1, 0), NOTHING);
        Check.due("29: taken, no such one, the least of all", x.taken(LOW, 6), NOTHING);
        Check.due("29: taken, no such one, the greatest of all", x.taken(HIGH, 6), NOTHING);
        Check.due("29: taken, nobody there", new ThirdAlike().taken(0, 0), NOTHING);
        Check.due("29: taken, k is named ahead of no such one", x.taken(1, 7), BAD);
    }

    private static void count() {
        ThirdAlike x = Check.live(8, RING, "wish 1 p=0", 0, 0, 0, 0, 6, 0, 0, 1);
        x.book(0);
        x.book(0);
        x.book(0);
        x.feed('w');
        x.feed('i');
        x.feed('s');
        x.feed('h');
        x.act(1, 2, 0);
        Check.due("30: count, 0 PEOPLE", x.count(0), 2);
        Check.due("30: count, 1 STREETS", x.count(1), 1);
        Check.due("30: count, 2 of the BOOK", x.count(2), 3);
        Check.due("30: count, 3 bytes of THE TEXT", x.count(3), 4);
        Check.due("30: count, 4 bodies that ran, the most", x.count(4), 12);
        Check.due("30: count, what 5", x.count(5), BAD);
        Check.due("30: count, what -1", x.count(-1), BAD);
        Check.due("30: count, the least what of all", x.count(LOW), BAD);
        Check.due("30: count, the greatest what of all", x.count(HIGH), BAD);
    }

    // ---- tapes

    private static void tape() {
        ThirdAlike x = new ThirdAlike();
        Check.due("31: tape, TAPE 0, sort 0, n 60, the most", x.tape(0, 0, 60), 1);
        Check.due("31: tape, n 60: item 59 is there, 0", x.read(0, 59), 0);
        Check.due("31: tape, n 60: item 60 is not", x.read(0, 60), NO);
        Check.due("31: tape, TAPE 5, sort 4, n 0, the least", x.tape(5, 4, 0), 1);
        Check.due("31: tape, n 0: item 0 is not there", x.item(5, 0, 1), PLACE);
        x.item(0, 0, 7);
        x.item(0, 59, 7);
        Check.due("31: tape, once more", x.tape(0, 0, 60), 1);
        Check.due("31: tape, once more: all 0, the first", x.read(0, 0), 0);
        Check.due("31: tape, once more: all 0, the last", x.read(0, 59), 0);
        x.item(0, 0, 7);
        Check.due("31: tape, sort -1", x.tape(0, -1, 0), 1);
        Check.due("31: tape, sort -1: it holds nothing", x.item(0, 0, 1), NOTHING);
        Check.due("31: tape, sort -1, n 61 does not matter", x.tape(0, -1, 61), 1);
        Check.due("31: tape, sort -1, n -1 does not matter", x.tape(0, -1, -1), 1);
        Check.due("31: tape, sort -1, the greatest n does not matter", x.tape(0, -1, HIGH), 1);
        Check.due("31: tape, sort -1, the least n does not matter", x.tape(0, -1, LOW), 1);
        x.tape(0, 2, 2);
        Check.due("31: tape, of a sort again: all 0", x.read(0, 0), 0);
        x.item(0, 1, 7);
        x.tape(0, 2, 1);
        x.tape(0, 2, 2);
        Check.due("31: tape, shorter and longer: all 0", x.read(0, 1), 0);
    }

    private static void tapeRefuses() {
        ThirdAlike x = new ThirdAlike();
        x.tape(0, 3, 2);
        x.item(0, 1, 7);
        Check.due("31: tape, TAPE 6", x.tape(6, 0, 1), NONE);
        Check.due("31: tape, TAPE -1", x.tape(-1, 0, 1), NONE);
        Check.due("31: tape, the least TAPE of all", x.tape(LOW, 0, 1), NONE);
        Check.due("31: tape, the greatest TAPE of all", x.tape(HIGH, 0, 1), NONE);
        Check.due("31: tape, sort 5", x.tape(0, 5, 1), BAD);
        Check.due("31: tape, sort -2", x.tape(0, -2, 1), BAD);
        Check.due("31: tape, the least sort of all", x.tape(0, LOW, 1), BAD);
        Check.due("31: tape, the greatest sort of all", x.tape(0, HIGH, 1), BAD);
        Check.due("31: tape, n 61", x.tape(0, 0, 61), BAD);
        Check.due("31: tape, the greatest n of all", x.tape(0, 0, HIGH), BAD);
        Check.due("31: tape, n -1", x.tape(0, 0, -1), SIZE);
        Check.due("31: tape, the least n of all", x.tape(0, 0, LOW), SIZE);
        Check.due("31: tape, TAPE is named ahead of sort and n", x.tape(6, 5, 61), NONE);
        Check.due("31: tape, TAPE is named, though sort is -1", x.tape(6, -1, 0), NONE);
        Check.due("31: tape, TAPE is named ahead of a size below 0", x.tape(-1, 0, -1), NONE);
        Check.due("31: tape, sort is named ahead of a size below 0", x.tape(0, 5, -1), BAD);
        Check.due("31: tape, refused: the row stays", x.read(0, 1), 7);
    }

    private static void becomes(int sort, long v, long due) {
        ThirdAlike x = new ThirdAlike();
        x.tape(0, sort, 1);
        Check.due("32: item, sort " + sort + " becomes " + v, x.item(0, 0, v), 1);
        Check.due("33: read, sort " + sort + " that became " + v, x.read(0, 0), due);
    }

    private static void itemOfEachSort() {
        becomes(BYTES, 127, 127);
        becomes(BYTES, 128, -128);
        becomes(BYTES, -128, -128);
        becomes(BYTES, -129, 127);
        becomes(BYTES, 256, 0);
        becomes(SHORTS, 32767, 32767);
        becomes(SHORTS, 32768, -32768);
        becomes(SHORTS, -32769, 32767);
        becomes(SHORTS, 65536, 0);
        becomes(INTS, HIGH, HIGH);
        becomes(INTS, HIGH + 1L, LOW);
        becomes(INTS, LOW - 1L, HIGH);
        becomes(INTS, 1L << 32, 0);
        becomes(LONGS, Long.MAX_VALUE, Long.MAX_VALUE);
        becomes(LONGS, Long.MIN_VALUE, Long.MIN_VALUE);
        becomes(BOOLEANS, 0, 0);
        becomes(BOOLEANS, 1, 1);
        becomes(BOOLEANS, 2, 1);
        becomes(BOOLEANS, -1, 1);
        becomes(BOOLEANS, 256, 1);
        becomes(BOOLEANS, 1L << 32, 1);
        becomes(BOOLEANS, Long.MIN_VALUE, 1);
    }

    private static void itemRefuses() {
        ThirdAlike x = new ThirdAlike();
        x.tape(0, 2, 3);
        Check.due("32: item, place 0, the first", x.item(0, 0, 5), 1);
        Check.due("32: item, place 2, the last", x.item(0, 2, 6), 1);
        Check.due("32: item, place 3 of three", x.item(0, 3, 7), PLACE);
        Check.due("32: item, place -1", x.item(0, -1, 7), PLACE);
        Check.due("32: item, the least place of all", x.item(0, LOW, 7), PLACE);
        Check.due("32: item, the greatest place of all", x.item(0, HIGH, 7), PLACE);
        Check.due("32: item, the TAPE holds nothing", x.item(1, 0, 7), NOTHING);
        Check.due("32: item, NOTHING is named ahead of the place", x.item(1, -1, 7), NOTHING);
        Check.due("32: item, TAPE 6", x.item(6, 0, 7), NONE);
        Check.due("32: item, TAPE -1", x.item(-1, 0, 7), NONE);
        Check.due("32: item, the least TAPE of all", x.item(LOW, 0, 7), NONE);
        Check.due("32: item, the greatest TAPE of all", x.item(HIGH, 0, 7), NONE);
        Check.due("32: item, refused: the first stays", x.read(0, 0), 5);
        Check.due("32: item, refused: the last stays", x.read(0, 2), 6);
        Check.due("32: item, the one beside is as it was", x.read(0, 1), 0);
    }

    private static void read() {
        ThirdAlike x = new ThirdAlike();
        x.tape(5, 2, 3);
        x.item(5, 2, -6);
        Check.due("33: read, TAPE 5, place 2, each the last", x.read(5, 2), -6);
        Check.due("33: read, place 0, the first", x.read(5, 0), 0);
        Check.due("33: read, place 3 of three", x.read(5, 3), NO);
        Check.due("33: read, place -1", x.read(5, -1), NO);
        Check.due("33: read, the least place of all", x.read(5, LOW), NO);
        Check.due("33: read, the greatest place of all", x.read(5, HIGH), NO);
        Check.due("33: read, the TAPE holds nothing", x.read(0, 0), NO);
        Check.due("33: read, TAPE 6", x.read(6, 0), NO);
        Check.due("33: read, TAPE -1", x.read(-1, 0), NO);
        Check.due("33: read, the least TAPE of all", x.read(LOW, 0), NO);
        Check.due("33: read, the greatest TAPE of all", x.read(HIGH, 0), NO);
        x.tape(5, -1, 3);
        Check.due("33: read, the TAPE holds nothing any more", x.read(5, 2), NO);
    }

    /** TAPES 0 and 1 are shorts, 1 .. 5 and 0, 0, 0; TAPE 2 is ints; 3 .. 5 hold nothing. */
    private static ThirdAlike tapes() {
        ThirdAlike x = new ThirdAlike();
        x.tape(0, SHORTS, 5);
        for (int i = 0; i < 5; i++) {
            x.item(0, i, i + 1);
        }
        x.tape(1, SHORTS, 3);
        x.tape(2, INTS, 3);
        return x;
    }

    private static void rowIs(String which, ThirdAlike x, int tape, long... row) {
        for (int i = 0; i < row.length; i++) {
            Check.due("34: shift, " + which + ", item " + i, x.read(tape, i), row[i]);
        }
        Check.due("34: shift, " + which + ", its end", x.read(tape, row.length), NO);
    }

    private static void shift() {
        ThirdAlike x = tapes();
        Check.due("34: shift, as many as the other one holds", x.shift(0, 2, 1, 0, 3), 3);
        rowIs("to another one", x, 1, 3, 4, 5);
        rowIs("from one that stays", x, 0, 1, 2, 3, 4, 5);
        Check.due("34: shift, one, from the last place to the last place", x.shift(1, 2, 0, 4, 1), 1);
        Check.due("34: shift, n 0", x.shift(0, 0, 1, 0, 0), 0);
        Check.due("34: shift, n 0 from either's end on", x.shift(0, 5, 1, 3, 0), 0);
        rowIs("n 0", x, 1, 3, 4, 5);
        Check.due("34: shift, all that there are, onto themselves", x.shift(0, 0, 0, 0, 5), 5);
        rowIs("onto themselves", x, 0, 1, 2, 3, 4, 5);
        ThirdAlike booleans = new ThirdAlike();
        booleans.tape(4, BOOLEANS, 1);
        booleans.tape(5, BOOLEANS, 1);
        booleans.item(4, 0, 2);
        Check.due("34: shift, booleans, of the last TAPES", booleans.shift(4, 0, 5, 0, 1), 1);
        rowIs("booleans", booleans, 5, 1);
    }

    private static void shiftWithinOne() {
        ThirdAlike up = tapes();
        Check.due("34: shift, within one upwards", up.shift(0, 0, 0, 1, 4), 4);
        rowIs("within one upwards, as they all were before", up, 0, 1, 1, 2, 3, 4);
        ThirdAlike down = tapes();
        Check.due("34: shift, within one downwards", down.shift(0, 1, 0, 0, 4), 4);
        rowIs("within one downwards, as they all were before", down, 0, 2, 3, 4, 5, 5);
    }

    private static void shiftRefuses() {
        ThirdAlike x = tapes();
        Check.due("34: shift, from TAPE 6", x.shift(6, 0, 0, 0, 1), NONE);
        Check.due("34: shift, from TAPE -1", x.shift(-1, 0, 0, 0, 1), NONE);
        Check.due("34: shift, to TAPE 6", x.shift(0, 0, 6, 0, 1), NONE);
        Check.due("34: shift, to TAPE -1", x.shift(0, 0, -1, 0, 1), NONE);
        Check.due("34: shift, from the least TAPE of all", x.shift(LOW, 0, 0, 0, 1), NONE);
        Check.due("34: shift, to the greatest TAPE of all", x.shift(0, 0, HIGH, 0, 1), NONE);
        Check.due("34: shift, from one that holds nothing", x.shift(3, 0, 0, 0, 1), NOTHING);
        Check.due("34: shift, to one that holds nothing", x.shift(0, 0, 3, 0, 1), NOTHING);
        Check.due("34: shift, from and to one that holds nothing", x.shift(3, 0, 3, 0, 1), NOTHING);
        Check.due("34: shift, of unlike sorts", x.shift(0, 0, 2, 0, 1), CAST);
        Check.due("34: shift, of unlike sorts, none", x.shift(0, 0, 2, 0, 0), CAST);
        Check.due("34: shift, to TAPE 6 is named ahead of NOTHING", x.shift(3, 0, 6, 0, 1), NONE);
        Check.due("34: shift, NOTHING is named ahead of the place", x.shift(3, -1, 0, 0, 1), NOTHING);
        Check.due("34: shift, NOTHING of the other one is named ahead of the place", x.shift(0, 9, 3, 0, 1), NOTHING);
        Check.due("34: shift, CAST is named ahead of the place", x.shift(0, -1, 2, 0, 1), CAST);
        rowIs("refused", x, 0, 1, 2, 3, 4, 5);
        rowIs("refused", x, 2, 0, 0, 0);
    }

    private static void shiftBeyondTheEnds() {
        ThirdAlike x = tapes();
        Check.due("34: shift, n -1", x.shift(0, 0, 1, 0, -1), PLACE);
        Check.due("34: shift, n -1 from further on", x.shift(0, 3, 1, 2, -1), PLACE);
        Check.due("34: shift, i -1", x.shift(0, -1, 1, 0, 1), PLACE);
        Check.due("34: shift, j -1", x.shift(0, 0, 1, -1, 1), PLACE);
        Check.due("34: shift, i -1 and n 0", x.shift(0, -1, 1, 0, 0), PLACE);
        Check.due("34: shift, j -1 and n 0", x.shift(0, 0, 1, -1, 0), PLACE);
        Check.due("34: shift, one beyond the end of the first", x.shift(0, 3, 1, 0, 3), PLACE);
        Check.due("34: shift, one beyond the end of the other", x.shift(0, 0, 1, 1, 3), PLACE);
        Check.due("34: shift, more than the other holds", x.shift(0, 0, 1, 0, 4), PLACE);
        Check.due("34: shift, i beyond the end and n 0", x.shift(0, 6, 1, 0, 0), PLACE);
        Check.due("34: shift, j beyond the end and n 0", x.shift(0, 0, 1, 4, 0), PLACE);
        Check.due("34: shift, the greatest n of all", x.shift(0, 0, 1, 0, HIGH), PLACE);
        Check.due("34: shift, the least n of all", x.shift(0, 0, 1, 0, LOW), PLACE);
        Check.due("34: shift, i and n whose sum wraps round", x.shift(0, HIGH, 1, 0, 1), PLACE);
        Check.due("34: shift, n and i whose sum wraps round", x.shift(0, 1, 1, 0, HIGH), PLACE);
        Check.due("34: shift, j and n whose sum wraps round", x.shift(0, 0, 1, HIGH, 1), PLACE);
        Check.due("34: shift, n and i, n and j whose sums wrap round", x.shift(0, 1, 1, 1, HIGH), PLACE);
        Check.due("34: shift, the least i of all", x.shift(0, LOW, 1, 0, 1), PLACE);
        Check.due("34: shift, the least j of all", x.shift(0, 0, 1, LOW, 1), PLACE);
        rowIs("no such place", x, 0, 1, 2, 3, 4, 5);
        rowIs("no such place", x, 1, 0, 0, 0);
    }
}
