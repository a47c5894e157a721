/** Promises 20 to 34: odds, quarter, book, looked, judge, image, undo, act, trace, taken, count, tape, item, read, shift. */
public final class TapesTest {
    private static final int LOW = Integer.MIN_VALUE, HIGH = Integer.MAX_VALUE;
    private static final int NOTHING = -11, CAST = -12, PLACE = -13, SIZE = -14;

    public static void main(String[] args) {
        odds();
        quarter();
        book();
        looked();
        judge();
        imageAndUndo();
        imageLeavesTheRest();
        act();
        trace();
        taken();
        count();
        tape();
        item();
        read();
        shift();
        Check.end();
    }

    private static ThirdAlike row(int n, int... homes) {
        ThirdAlike x = new ThirdAlike();
        x.town(n, 1);
        for (int p = 0; p < homes.length; p++) {
            x.person(0, 0, p % 2, homes[p]);
        }
        return x;
    }

    private static void oddsAre(String which, ThirdAlike x, int n, int above, int below) {
        Check.due("20: " + which + ", odds(" + n + ", 0)", x.odds(n, 0), above);
        Check.due("20: " + which + ", odds(" + n + ", 1)", x.odds(n, 1), below);
    }

    private static void odds() {
        ThirdAlike x = row(6, 0, 5);
        oddsAre("two far apart", x, 0, 1, 1);
        oddsAre("two far apart", x, 1, 1, 2);
        oddsAre("two far apart", x, 2, 7, 16);
        Check.due("20: nothing changed", x.of(0, 3) * 10 + x.of(1, 3), 5);
        oddsAre("never apart", row(3, 0, 1), 1, 0, 1);
        oddsAre("never apart", row(3, 0, 1), 0, 0, 1);
        oddsAre("nobody", new ThirdAlike(), 2, 1, 1);
        ThirdAlike full = row(3, 0, 1, 2);
        oddsAre("no free HOUSE", full, 2, 0, 1);
        Check.due("street", Check.street(full, "wish 0 p<9"), 0);
        oddsAre("no free HOUSE, all CONTENT", full, 2, 1, 1);
        int[][] none = {{-1, 0}, {3, 0}, {1, -1}, {1, 2}, {LOW, 0}, {HIGH, 1}, {0, LOW}, {0, HIGH}};
        for (int[] row : none) {
            Check.due("20: odds(" + row[0] + ", " + row[1] + ")", x.odds(row[0], row[1]), ThirdAlike.NO);
        }
    }

    private static void quarter() {
        ThirdAlike x = new ThirdAlike();
        x.town(7, 0);
        int[] homes = {2, 3, 4, 5, 6};
        int[] sorts = {1, 0, 0, 1, 0};
        for (int p = 0; p < 5; p++) {
            x.person(0, 0, sorts[p], homes[p]);
        }
        long[][] want = {{0, 0, 0, 1}, {0, 1, 1, 1}, {0, 2, 0, 1}, {1, 0, 3, 4}, {1, 1, 1, 4}, {1, 2, 0, 1}};
        for (long[] row : want) {
            Check.due("21: quarter " + row[0] + " sort " + row[1], x.quarter((int) row[0], (int) row[1], 0), row[2]);
            Check.due("21: quarter " + row[0] + " sort " + row[1] + " below", x.quarter((int) row[0], (int) row[1], 1), row[3]);
        }
        x.put(4, 0);
        Check.due("21: lowest terms", x.quarter(0, 0, 1), 2);
        x.town(6, 0);
        Check.due("21: 3 HOUSES now", x.quarter(0, 1, 1), 2);
        Check.due("21: 3 HOUSES then", x.quarter(1, 0, 0) * 10 + x.quarter(1, 0, 1), 23);
        ThirdAlike none = row(8, 7);
        Check.due("21: nobody there", none.quarter(0, 0, 0), ThirdAlike.NO);
        Check.due("21: one there", none.quarter(1, 0, 0), 1);
        int[][] bad = {{-1, 0, 0}, {2, 0, 0}, {1, -1, 0}, {1, 3, 0}, {1, 0, -1}, {1, 0, 2}, {HIGH, LOW, HIGH}};
        for (int[] row : bad) {
            Check.due("21: bad numbers", none.quarter(row[0], row[1], row[2]), ThirdAlike.NO);
        }
    }

    private static void book() {
        ThirdAlike x = new ThirdAlike();
        int[] none = {-2, 8, 9, 18, 58, 59, 60, 67, LOW, HIGH};
        for (int told : none) {
            Check.due("22: book(" + told + ")", x.book(told), ThirdAlike.NONE);
        }
        for (int i = 1; i <= 12; i++) {
            Check.due("22: move " + i, x.book(i == 1 ? 57 : i == 2 ? 0 : 10 * (i % 6) + i % 8), i);
        }
        Check.due("22: full", x.book(0), ThirdAlike.FULL);
        Check.due("22: none ahead of full", x.book(60), ThirdAlike.NONE);
        Check.due("22: twelve", x.count(2), 12);
        Check.due("22: empty", x.book(-1), 0);
        Check.due("22: none", x.count(2), 0);
        Check.due("22: first again", x.book(33), 1);
    }

    private static void looked() {
        ThirdAlike x = Check.chase("");
        Check.due("23: empty book", x.looked(), -5);
        int[] moves = {13, 2, 10, 1, 13, 2};
        for (int move : moves) {
            x.book(move);
            Check.due("23: all right", x.looked(), -5);
        }
        x.book(20);
        Check.due("23: the other one of SWAP", x.looked(), 6);
        x.book(10);
        Check.due("23: the first one", x.looked(), 6);
        x.move();
        Check.due("23: from how all is", x.looked(), 0);
        ThirdAlike still = row(8, 0);
        still.book(1);
        Check.due("23: nobody moves", still.looked(), 0);
    }

    private static void judge() {
        ThirdAlike x = row(8, 0, 1, 7);
        Check.due("24: HAPPY", x.told(5), 4);
        Check.due("24: nothing there", x.judge(3, 0), 100);
        x.tape(3, 0, 9);
        Check.due("24: bytes", x.judge(3, 0), CAST);
        Check.due("24: bytes, place below 0", x.judge(3, -1), CAST);
        x.tape(3, 4, 6);
        x.item(3, 5, 1);
        Check.due("24: place below 0", x.judge(3, -1), 100);
        Check.due("24: least place", x.judge(3, LOW), 100);
        Check.due("24: greatest place", x.judge(3, HIGH), 100);
        Check.due("24: the last place", x.judge(3, 6), 100);
        Check.due("24: all right", x.judge(3, 3), -5);
        Check.due("24: otherwise of 2", x.judge(3, 2), 2);
        Check.due("24: two looked at", x.judge(3, 4) , 1);
        x.item(3, 5, 0);
        Check.due("24: two looked at", x.judge(3, 4), 102);
        Check.due("24: one looked at", x.judge(3, 5), 101);
        x.item(3, 0, 1);
        Check.due("24: otherwise of 0", x.judge(3, 0), 0);
        Check.due("24: tape 6", x.judge(6, 0), ThirdAlike.NONE);
        Check.due("24: tape -1", x.judge(-1, 0), ThirdAlike.NONE);
        Check.due("24: tape far off", x.judge(HIGH, LOW), ThirdAlike.NONE);
        ThirdAlike nobody = new ThirdAlike();
        Check.due("24: nobody", nobody.judge(0, -1), -5);
        nobody.tape(0, 3, 0);
        Check.due("24: nobody, longs", nobody.judge(0, -1), CAST);
    }

    private static void imageAndUndo() {
        ThirdAlike x = Check.chase("");
        x.move();
        x.book(2);
        Check.due("25: image()", x.image(), 3);
        x.move();
        x.book(2);
        x.book(-1);
        x.book(44);
        x.town(6, 1);
        x.person(6, 4, 2, 5);
        x.put(0, 4);
        Check.street(x, "wish 7 p<9");
        Check.due("5: the new street", x.of(0, 4), 7);
        for (int again = 0; again < 2; again++) {
            Check.due("26: undo()", x.undo(), 3);
            int[] want = {5, 2, 1, 0, 1, 6, 20};
            for (int what = 0; what < want.length; what++) {
                Check.due("26: told(" + what + ")", x.told(what), want[what]);
            }
            int[][] of = {{0, 0, 0, 1, 50, 100}, {3, 1, 0, 3, 0, 0}, {1, 7, 1, 0, 0, 100}};
            for (int p = 0; p < 3; p++) {
                for (int what = 0; what < 6; what++) {
                    Check.due("26: of(" + p + ", " + what + ")", x.of(p, what), of[p][what]);
                }
            }
            Check.due("26: the book", x.count(2), 1);
            Check.due("26: what the book tells", x.looked(), -5);
            x.book(-1);
            x.book(33);
            Check.due("26: the fourth is gone", x.of(3, 0), -10001);
            x.person(2, 2, 2, 4);
            x.put(1, 2);
        }
        Check.due("25: image() anew", x.image(), 4);
        Check.due("26: undo() anew", x.undo(), 4);
        Check.due("26: lives as then", x.of(1, 3), 2);
        ThirdAlike none = new ThirdAlike();
        Check.due("26: there is none", none.undo(), ThirdAlike.STATE);
        Check.due("25: nobody", none.image(), 0);
        none.person(0, 0, 0, 0);
        Check.due("26: nobody", none.undo(), 0);
        Check.due("26: nobody lives", none.told(6), 255);
    }

    private static void imageLeavesTheRest() {
        ThirdAlike x = row(8, 0);
        Check.due("25: no street yet", x.image(), 1);
        Check.street(x, "wish 7 p<9");
        x.feed('w');
        x.tape(1, 2, 3);
        x.item(1, 1, 5);
        x.act(0, 1, 4);
        Check.due("26: undo()", x.undo(), 1);
        Check.due("26: no street holds", x.of(0, 4), 33);
        Check.due("26: streets stay", x.count(1), 1);
        Check.due("26: the text stays", x.count(3), 1);
        Check.due("26: tapes stay", x.read(1, 1), 5);
        Check.due("26: the trace stays", x.count(4), 2);
        Check.due("8: the next street", Check.street(x, "ish 8 p<9"), 1);
    }

    private static void actIs(int kind, int act, int x, int want, int... bodies) {
        ThirdAlike town = new ThirdAlike();
        town.person(0, 0, 0, 0);
        town.person(0, 0, 0, 1);
        int p = town.person(kind, 5, 0, 2);
        String which = "KIND " + kind + " act " + act + " x " + x;
        Check.due("27: " + which, town.act(p, act, x), want);
        Check.due("30: " + which, town.count(4), bodies.length);
        for (int i = 0; i < bodies.length; i++) {
            Check.due("28: " + which + " trace(" + i + ")", town.trace(i), bodies[i]);
        }
        Check.due("28: " + which + " behind", town.trace(bodies.length), ThirdAlike.NONE);
    }

    /** Of one whose number i is 2 and whose v is 5. */
    private static void act() {
        actIs(0, 0, 7, 9, 10);
        actIs(0, 1, 7, 4, 11, 10);
        actIs(0, 2, 7, 8, 12, 11, 10);
        actIs(1, 0, 7, 9, 10);
        actIs(1, 1, 7, 4 ^ 6, 20, 11, 10);
        actIs(1, 2, 7, (4 ^ 6) * 2, 12, 20, 11, 10);
        actIs(2, 0, 7, 23, 30, 10);
        actIs(2, 1, 7, 18, 11, 30, 10);
        actIs(2, 2, 7, 36, 12, 11, 30, 10);
        actIs(3, 0, 7, 9, 10);
        actIs(3, 1, 7, 4, 11, 10);
        actIs(3, 2, 7, 8 - 2, 40, 12, 11, 10, 11, 10);
        actIs(4, 0, 7, -9, 50, 10);
        actIs(4, 1, 7, (-10 - 5) ^ 6, 51, 20, 11, 50, 10);
        actIs(4, 2, 7, ((-10 - 5) ^ 6) * 2, 12, 51, 20, 11, 50, 10);
        actIs(5, 0, 7, 23, 30, 10);
        actIs(5, 1, 7, 18, 11, 30, 10);
        actIs(5, 2, 7, 24, 60, 12, 11, 30, 10);
        actIs(6, 0, 7, 9 ^ 5, 71, 10);
        actIs(6, 1, 7, (9 ^ 5) - 5 + 4, 70, 11, 71, 10, 10);
        actIs(6, 2, 7, 22 + 6 - 5 + 4, 40, 12, 70, 11, 71, 10, 10, 70, 11, 71, 10, 10);
        actIs(0, 0, HIGH, LOW + 1, 10);
        actIs(0, 2, LOW, -6, 12, 11, 10);
        actIs(2, 0, LOW, LOW + 2, 30, 10);
        ThirdAlike x = new ThirdAlike();
        x.person(0, 0, 0, 0);
        int[][] none = {{1, 0}, {-1, 0}, {0, 3}, {0, -1}, {HIGH, LOW}};
        for (int[] row : none) {
            Check.due("27: an act", x.act(0, 1, 3), 3);
            Check.due("27: no such one, act", x.act(row[0], row[1], 9), 0);
            Check.due("27: no trace then", x.trace(0), ThirdAlike.NONE);
            Check.due("27: none ran", x.count(4), 0);
        }
    }

    private static void trace() {
        ThirdAlike x = new ThirdAlike();
        x.person(6, 0, 0, 0);
        x.act(0, 2, 0);
        Check.due("28: trace(0)", x.trace(0), 40);
        Check.due("28: trace(11)", x.trace(11), 10);
        int[] none = {-1, 12, 20, LOW, HIGH};
        for (int i : none) {
            Check.due("28: trace(" + i + ")", x.trace(i), ThirdAlike.NONE);
        }
        x.act(0, 0, 0);
        Check.due("28: of the latest act", x.trace(0), 71);
        Check.due("28: no more of the one before", x.trace(2), ThirdAlike.NONE);
    }

    private static void taken() {
        ThirdAlike x = new ThirdAlike();
        int[][] above = {{0}, {1, 0}, {2, 0}, {3, 0}, {4, 1, 0}, {5, 2, 0}, {6, 3, 0}};
        for (int kind = 0; kind < 7; kind++) {
            ThirdAlike one = new ThirdAlike();
            one.person(kind, 0, 0, 0);
            for (int k = 0; k < 7; k++) {
                boolean is = false;
                for (int up : above[kind]) {
                    is |= up == k;
                }
                Check.due("29: KIND " + kind + " taken for " + k, one.taken(0, k), is ? kind : CAST);
            }
            Check.due("29: k 7", one.taken(0, 7), ThirdAlike.BAD);
            Check.due("29: k -1", one.taken(0, -1), ThirdAlike.BAD);
        }
        Check.due("29: nobody", x.taken(0, 0), NOTHING);
        Check.due("29: one below 0", x.taken(-1, 6), NOTHING);
        Check.due("29: k ahead of nobody", x.taken(HIGH, LOW), ThirdAlike.BAD);
    }

    private static void count() {
        ThirdAlike x = new ThirdAlike();
        Check.street(x, "wish 1 p<9");
        Check.street(x, "wish 2 p<9");
        x.person(2, 0, 0, 0);
        x.book(0);
        x.book(1);
        x.book(2);
        x.act(0, 2, 0);
        for (int i = 0; i < 5; i++) {
            x.feed('w');
        }
        int[] want = {1, 2, 3, 5, 4};
        for (int what = 0; what < 5; what++) {
            Check.due("30: count(" + what + ")", x.count(what), want[what]);
        }
        int[] bad = {-1, 5, LOW, HIGH};
        for (int what : bad) {
            Check.due("30: count(" + what + ")", x.count(what), ThirdAlike.BAD);
        }
    }

    private static void tape() {
        ThirdAlike x = new ThirdAlike();
        for (int sort = 0; sort < 5; sort++) {
            Check.due("31: sort " + sort, x.tape(sort, sort, 60), 1);
            Check.due("31: all 0", x.read(sort, 59), 0);
            Check.due("31: 60 long", x.read(sort, 60), ThirdAlike.NO);
        }
        x.item(2, 59, 7);
        Check.due("31: anew", x.tape(2, 2, 60), 1);
        Check.due("31: all 0 anew", x.read(2, 59), 0);
        x.item(2, 3, 7);
        Check.due("31: bad sort 5", x.tape(2, 5, 1), ThirdAlike.BAD);
        Check.due("31: bad sort -2", x.tape(2, -2, -1), ThirdAlike.BAD);
        Check.due("31: n 61", x.tape(2, 2, 61), ThirdAlike.BAD);
        Check.due("31: n greatest", x.tape(2, 2, HIGH), ThirdAlike.BAD);
        Check.due("31: n -1", x.tape(2, 2, -1), SIZE);
        Check.due("31: n least", x.tape(2, 0, LOW), SIZE);
        Check.due("31: bad sort ahead of n", x.tape(2, 5, -1), ThirdAlike.BAD);
        Check.due("31: tape 6", x.tape(6, 9, -1), ThirdAlike.NONE);
        Check.due("31: tape -1", x.tape(-1, -1, 0), ThirdAlike.NONE);
        Check.due("31: what is refused changes nothing", x.read(2, 3), 7);
        Check.due("31: no items", x.tape(2, 2, 0), 1);
        Check.due("31: none to read", x.read(2, 0), ThirdAlike.NO);
        Check.due("31: it is there", x.item(2, 0, 1), PLACE);
        Check.due("31: nothing, n does not matter", x.tape(2, -1, HIGH), 1);
        Check.due("31: nothing, n does not matter", x.tape(3, -1, LOW), 1);
        Check.due("31: nothing", x.item(2, 0, 1), NOTHING);
        Check.due("31: nothing", x.read(3, 0), ThirdAlike.NO);
    }

    private static void item() {
        ThirdAlike x = new ThirdAlike();
        long[] values = {200, 70000, 1L << 31, Long.MAX_VALUE, 256, -1, 0, 3, Long.MIN_VALUE, 128, 32768};
        for (int sort = 0; sort < 5; sort++) {
            x.tape(sort, sort, values.length);
            for (int i = 0; i < values.length; i++) {
                long v = values[i];
                long want = sort == 0 ? (byte) v : sort == 1 ? (short) v : sort == 2 ? (int) v : sort == 3 ? v : v != 0 ? 1 : 0;
                Check.due("32: item(" + sort + ", " + i + ", " + v + ")", x.item(sort, i, v), 1);
                Check.due("33: read(" + sort + ", " + i + ")", x.read(sort, i), want);
            }
            Check.due("32: place behind the end", x.item(sort, values.length, 1), PLACE);
            Check.due("32: place below 0", x.item(sort, -1, 1), PLACE);
            Check.due("32: place far off", x.item(sort, HIGH, 1) + x.item(sort, LOW, 1), 2 * PLACE);
        }
        Check.due("32: nothing", x.item(5, -1, 1), NOTHING);
        Check.due("32: tape 6", x.item(6, -1, 1), ThirdAlike.NONE);
        Check.due("32: tape -1", x.item(-1, 0, 1), ThirdAlike.NONE);
    }

    private static void read() {
        ThirdAlike x = new ThirdAlike();
        x.tape(0, 3, 2);
        x.item(0, 1, -9);
        Check.due("33: read(0, 1)", x.read(0, 1), -9);
        int[][] none = {{0, 2}, {0, -1}, {1, 0}, {6, 0}, {-1, 0}, {HIGH, LOW}, {0, HIGH}, {0, LOW}};
        for (int[] row : none) {
            Check.due("33: read(" + row[0] + ", " + row[1] + ")", x.read(row[0], row[1]), ThirdAlike.NO);
        }
    }

    private static void shift() {
        ThirdAlike x = new ThirdAlike();
        x.tape(0, 1, 6);
        for (int i = 0; i < 6; i++) {
            x.item(0, i, i + 1);
        }
        x.tape(1, 1, 4);
        x.tape(2, 2, 4);
        Check.due("34: to another one", x.shift(0, 2, 1, 1, 3), 3);
        rowIs(x, 1, 0, 3, 4, 5);
        Check.due("34: to the same, upwards", x.shift(0, 0, 0, 1, 5), 5);
        rowIs(x, 0, 1, 1, 2, 3, 4, 5);
        Check.due("34: to the same, downwards", x.shift(0, 2, 0, 0, 4), 4);
        rowIs(x, 0, 2, 3, 4, 5, 4, 5);
        Check.due("34: none, from the end", x.shift(0, 6, 1, 4, 0), 0);
        int[][] place = {{0, 0, 1, 0, 5}, {0, 6, 1, 0, 1}, {0, 7, 1, 0, 0}, {0, 0, 1, 5, 0}, {0, -1, 1, 0, 1}, {0, 0, 1, -1, 1},
            {0, 0, 1, 0, -1}, {0, HIGH, 1, 0, HIGH}, {0, 1, 1, 0, HIGH}, {0, 0, 1, HIGH, 1}, {0, LOW, 1, LOW, LOW}, {0, 3, 0, 0, 4}};
        for (int[] row : place) {
            Check.due("34: no such place", x.shift(row[0], row[1], row[2], row[3], row[4]), PLACE);
        }
        Check.due("34: unlike sorts", x.shift(0, -1, 2, 0, 1), CAST);
        Check.due("34: nothing to take", x.shift(3, -1, 2, 0, 1), NOTHING);
        Check.due("34: nothing to put in", x.shift(0, 0, 3, 0, 1), NOTHING);
        int[][] none = {{6, 0}, {-1, 0}, {0, 6}, {0, -1}, {3, 6}, {LOW, HIGH}};
        for (int[] row : none) {
            Check.due("34: no such tape", x.shift(row[0], -1, row[1], -1, -1), ThirdAlike.NONE);
        }
        rowIs(x, 0, 2, 3, 4, 5, 4, 5);
        rowIs(x, 1, 0, 3, 4, 5);
        rowIs(x, 2, 0, 0, 0, 0);
    }

    private static void rowIs(ThirdAlike x, int tape, long... want) {
        for (int i = 0; i < want.length; i++) {
            Check.due("34: read(" + tape + ", " + i + ")", x.read(tape, i), want[i]);
        }
        Check.due("34: its end", x.read(tape, want.length), ThirdAlike.NO);
    }
}
