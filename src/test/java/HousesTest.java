/** Promises 1 to 9: a new object, town, neighbours, person, of, put, feed, street, told. */
public final class HousesTest {
    private static final int LOW = Integer.MIN_VALUE, HIGH = Integer.MAX_VALUE;

    public static void main(String[] args) {
        newObject();
        town();
        neighbours();
        person();
        of();
        weights();
        goesTo();
        swaps();
        put();
        feed();
        streetFaults();
        streetMeaning();
        streetNumbers();
        told();
        Check.end();
    }

    private static void newObject() {
        ThirdAlike x = new ThirdAlike();
        for (int what = 0; what <= 4; what++) {
            Check.due("1: count(" + what + ")", x.count(what), 0);
        }
        Check.due("1: told(0)", x.told(0), 8);
        Check.due("1: told(1)", x.told(1), 0);
        Check.due("1: told(2)", x.told(2), 0);
        Check.due("1: told(6)", x.told(6), 255);
        Check.due("1: undo()", x.undo(), ThirdAlike.STATE);
        Check.due("1: trace(0)", x.trace(0), ThirdAlike.NONE);
        Check.due("1: of(0, 3)", x.of(0, 3), -10001);
        for (int tape = 0; tape < 6; tape++) {
            Check.due("1: read(" + tape + ", 0)", x.read(tape, 0), ThirdAlike.NO);
            Check.due("1: item(" + tape + ", 0, 1)", x.item(tape, 0, 1), -11);
        }
        ThirdAlike other = new ThirdAlike();
        x.person(0, 0, 0, 0);
        Check.due("1: another object's count(0)", other.count(0), 0);
    }

    private static void town() {
        ThirdAlike x = new ThirdAlike();
        Check.due("2: town(3, 0)", x.town(3, 0), 8);
        Check.due("2: town(5, 2)", x.town(5, 2), 3);
        Check.due("2: told(0)", x.told(0), 5);
        Check.due("2: told(1)", x.told(1), 2);
        Check.due("2: shape 3", x.town(8, 3), ThirdAlike.NONE);
        Check.due("2: shape -1", x.town(8, -1), ThirdAlike.NONE);
        Check.due("2: shape first", x.town(HIGH, LOW), ThirdAlike.NONE);
        Check.due("2: n 2", x.town(2, 0), ThirdAlike.BAD);
        Check.due("2: n 9", x.town(9, 0), ThirdAlike.BAD);
        Check.due("2: n least", x.town(LOW, 0), ThirdAlike.BAD);
        Check.due("2: refused changes nothing", x.told(0) * 10 + x.told(1), 52);
        x.person(0, 0, 0, 4);
        Check.due("2: somebody in 4", x.town(4, 0), ThirdAlike.STATE);
        Check.due("2: n ahead of somebody", x.town(2, 0), ThirdAlike.BAD);
        Check.due("2: houses stay", x.town(5, 0), 5);
        Check.due("2: houses again", x.town(8, 1), 5);
        Check.due("2: now 8", x.told(0), 8);
        Check.due("2: one stays where they live", x.of(0, 3), 4);
    }

    private static void neighbours() {
        neighbourRow(3, 0, 6, 5, 3);
        neighbourRow(4, 0, 14, 13, 11, 7);
        neighbourRow(5, 0, 30, 29, 27, 23, 15);
        neighbourRow(6, 0, 54, 45, 27, 54, 45, 27);
        neighbourRow(8, 0, 198, 141, 27, 54, 108, 216, 177, 99);
        neighbourRow(3, 1, 6, 5, 3);
        neighbourRow(4, 1, 6, 13, 11, 6);
        neighbourRow(8, 1, 6, 13, 27, 54, 108, 216, 176, 96);
        neighbourRow(3, 2, 2, 5, 2);
        neighbourRow(4, 2, 2, 5, 10, 4);
        neighbourRow(5, 2, 18, 21, 10, 4, 3);
        neighbourRow(8, 2, 50, 117, 234, 196, 35, 87, 174, 76);
    }

    private static void neighbourRow(int n, int shape, int... bits) {
        ThirdAlike x = new ThirdAlike();
        x.town(n, shape);
        for (int h = 0; h < n; h++) {
            Check.due("3: n " + n + " shape " + shape + " neighbours(" + h + ")", x.neighbours(h), bits[h]);
        }
        Check.due("3: neighbours(" + n + ")", x.neighbours(n), ThirdAlike.NONE);
        Check.due("3: neighbours(-1)", x.neighbours(-1), ThirdAlike.NONE);
        Check.due("3: neighbours(greatest)", x.neighbours(HIGH), ThirdAlike.NONE);
        Check.due("3: neighbours(least)", x.neighbours(LOW), ThirdAlike.NONE);
    }

    private static void person() {
        ThirdAlike x = new ThirdAlike();
        x.town(7, 0);
        Check.due("4: kind 7", x.person(7, 0, 0, 0), ThirdAlike.NONE);
        Check.due("4: kind -1", x.person(-1, 0, 0, 0), ThirdAlike.NONE);
        Check.due("4: sort 3", x.person(0, 0, 3, 0), ThirdAlike.NONE);
        Check.due("4: sort -1", x.person(0, 0, -1, 0), ThirdAlike.NONE);
        Check.due("4: house 7 of 7", x.person(0, 0, 0, 7), ThirdAlike.NONE);
        Check.due("4: house -1", x.person(0, 0, 0, -1), ThirdAlike.NONE);
        Check.due("4: house ahead of v", x.person(0, 10, 0, HIGH), ThirdAlike.NONE);
        Check.due("4: v 10", x.person(0, 10, 0, 0), ThirdAlike.BAD);
        Check.due("4: v -1", x.person(0, -1, 0, 0), ThirdAlike.BAD);
        Check.due("4: none came", x.count(0), 0);
        for (int p = 0; p < 6; p++) {
            Check.due("4: person " + p, x.person(p + 1, p + 4, p % 3, 6 - p), p);
            Check.due("4: somebody lives there", x.person(0, 0, 0, 6 - p), ThirdAlike.STATE);
            Check.due("4: v ahead of somebody", x.person(0, 10, 0, 6 - p), ThirdAlike.BAD);
        }
        Check.due("4: full", x.person(0, 0, 0, 0), ThirdAlike.FULL);
        Check.due("4: somebody ahead of full", x.person(0, 0, 0, 1), ThirdAlike.STATE);
        Check.due("4: six", x.count(0), 6);
        for (int p = 0; p < 6; p++) {
            Check.due("4: kind of " + p, x.of(p, 0), p + 1);
            Check.due("4: v of " + p, x.of(p, 1), p + 4);
            Check.due("4: sort of " + p, x.of(p, 2), p % 3);
            Check.due("4: house of " + p, x.of(p, 3), 6 - p);
        }
    }

    private static void of() {
        ThirdAlike x = new ThirdAlike();
        x.person(4, 3, 2, 6);
        int[] want = {4, 3, 2, 6, 33, 100, 0, 1, -5};
        for (int what = 0; what < want.length; what++) {
            Check.due("5: of(0, " + what + ")", x.of(0, what), want[what]);
        }
        int[][] none = {{1, 0}, {-1, 0}, {0, 9}, {0, -1}, {LOW, 3}, {HIGH, 3}, {0, LOW}, {0, HIGH}, {6, 8}};
        for (int[] numbers : none) {
            Check.due("5: of(" + numbers[0] + ", " + numbers[1] + ")", x.of(numbers[0], numbers[1]), -10001);
        }
        x.person(0, 0, 1, 7);
        Check.due("5: not CONTENT beside another SORT", x.of(0, 7), 0);
        Check.due("5: PRICE goes where nobody is around", x.of(0, 8), 4);
        Check.due("5: MOVER goes where nobody is around", x.of(1, 8), 1);
    }

    private static void weights() {
        ThirdAlike x = new ThirdAlike();
        x.person(0, 0, 0, 0);
        x.person(1, 0, 1, 1);
        x.person(0, 0, 0, 2);
        Check.due("5: street", Check.street(x, "wish 40 s=0;wish 50 h<4;most 70 k=1;most 60 f>1;dear 30 m=0;dear 99 p>1"), 0);
        int[] wish = {90, 50, 90};
        int[] tooMuch = {60, 60, 60};
        int[] cost = {30, 30, 129};
        for (int p = 0; p < 3; p++) {
            Check.due("5: WISH of " + p, x.of(p, 4), wish[p]);
            Check.due("5: TOO MUCH of " + p, x.of(p, 5), tooMuch[p]);
            Check.due("5: COST of " + p, x.of(p, 6), cost[p]);
            Check.due("5: CONTENT " + p, x.of(p, 7), 0);
        }
        x.put(0, 4);
        Check.due("5: TOO MUCH of 0 with one around", x.of(0, 5), 100);
        Check.due("5: WISH of 0 in 4", x.of(0, 4), 40);
        Check.due("5: CONTENT beside one alike", x.of(0, 7), 1);
        Check.due("5: street", Check.street(x, "wish 99 p<9;wish 99 p<9;dear 99 p<9;dear 99 p<9"), 1);
        Check.due("5: WISH at most 100", x.of(0, 4), 100);
        Check.due("5: COST has no bound", x.of(0, 6), 198);
        Check.due("5: street", Check.street(x, "wish 50 p>5"), 2);
        Check.due("5: no WISH holds", x.of(0, 4), 0);
        Check.due("5: street", Check.street(x, "most 49 p=0"), 3);
        Check.due("5: no wish CLAUSES at all", x.of(0, 4), 33);
        x.put(0, 0);
        Check.due("5: half is more than 49", x.of(0, 7), 0);
        Check.due("5: street", Check.street(x, "most 50 p=0;wish 50 p=0"), 4);
        Check.due("5: half is no more than 50, no less", x.of(0, 7), 1);
        Check.due("5: street", Check.street(x, "wish 51 p=0"), 5);
        Check.due("5: half is less than 51", x.of(0, 7), 0);
    }

    /** 0 of SORT 0 in 4 beside 1 of SORT 1 in 3; 2 of SORT 0 in 0. They would be CONTENT in 1, 2, 6 and 7. */
    private static ThirdAlike goer(int kind, int v, String text) {
        ThirdAlike x = new ThirdAlike();
        x.person(kind, v, 0, 4);
        x.person(0, 0, 1, 3);
        x.person(0, 0, 0, 0);
        Check.due("street " + text, Check.street(x, text), 0);
        return x;
    }

    private static void goesTo() {
        String text = "wish 50 s=0;dear 30 h<6";
        Check.due("5: MOVER", goer(0, 0, text).of(0, 8), 1);
        Check.due("5: NEAR, of two the lesser", goer(1, 0, text).of(0, 8), 2);
        Check.due("5: NEXT", goer(2, 0, text).of(0, 8), 6);
        Check.due("5: NEXT, round", goer(2, 0, "wish 50 s=0;most 0 h>4").of(0, 8), 1);
        Check.due("5: SWAP as MOVER", goer(3, 0, text).of(0, 8), 1);
        Check.due("5: PRICE 20", goer(4, 2, text).of(0, 8), 6);
        Check.due("5: PRICE 30", goer(4, 3, text).of(0, 8), 2);
        Check.due("5: PRICE nowhere", goer(4, 0, "wish 50 s=0;dear 1 p=0").of(0, 8), -5);
        Check.due("5: LAZY by 0 MOVES", goer(5, 1, text).of(0, 8), -5);
        Check.due("5: TOLD, CONTENT there or not", goer(6, 5, text).of(0, 8), 5);
        Check.due("5: TOLD where somebody lives", goer(6, 3, text).of(0, 8), 1);
        Check.due("5: TOLD where they live", goer(6, 4, text).of(0, 8), 1);
        Check.due("5: TOLD where no HOUSE is", goer(6, 9, text).of(0, 8), 1);
        Check.due("5: who is CONTENT goes nowhere", goer(6, 5, text).of(1, 8), -5);
        lazy(text);
    }

    private static void lazy(String text) {
        ThirdAlike x = new ThirdAlike();
        x.person(5, 1, 0, 4);
        x.person(6, 2, 1, 3);
        x.person(0, 0, 0, 0);
        Check.due("street", Check.street(x, text + ";wish 50 p=1"), 0);
        for (int moves = 0; moves < 7; moves++) {
            Check.due("5: LAZY with 1 by MOVES " + moves, x.of(0, 8), moves % 3 == 0 ? -5 : 6);
            Check.due("10: LAZY with 1 by MOVES " + moves, x.move(), moves % 3 == 0 ? 12 : 6);
            x.put(1, 3);
            x.put(0, 4);
        }
    }

    private static ThirdAlike swapper(int kind, int v, int lastSort, String text) {
        ThirdAlike x = new ThirdAlike();
        x.town(8, 1);
        x.person(kind, v, 0, 0);
        x.person(0, 0, 1, 7);
        x.person(0, 0, 0, 6);
        x.person(0, 0, lastSort, 1);
        Check.due("street " + text, Check.street(x, text), 0);
        return x;
    }

    private static void swaps() {
        ThirdAlike x = swapper(3, 0, 1, "wish 50 p=0");
        Check.due("5: SWAP", x.of(0, 8), 7);
        Check.due("10: SWAP goes", x.move(), 7);
        Check.due("10: SWAP, both", x.of(0, 3) * 10 + x.of(1, 3), 70);
        Check.due("5: SWAP, the other one CONTENT", swapper(3, 0, 1, "wish 50 p<2").of(0, 8), 7);
        Check.due("5: SWAP, the other one not CONTENT", swapper(3, 0, 2, "wish 50 p<2").of(0, 8), 4);
        ThirdAlike told = swapper(6, 7, 1, "wish 50 p=0");
        Check.due("5: TOLD as SWAP", told.of(0, 8), 7);
        Check.due("10: TOLD as SWAP goes", told.move(), 7);
        Check.due("10: TOLD as SWAP, both", told.of(0, 3) * 10 + told.of(1, 3), 70);
        Check.due("5: NEAR changes with nobody", swapper(1, 0, 1, "wish 50 p=0").of(0, 8), 4);
    }

    private static void put() {
        ThirdAlike x = new ThirdAlike();
        x.town(7, 0);
        x.person(0, 0, 0, 2);
        x.person(0, 0, 1, 3);
        Check.due("6: put(0, 6)", x.put(0, 6), 2);
        Check.due("6: lives there", x.of(0, 3), 6);
        Check.due("6: no MOVE", x.told(2), 0);
        Check.due("6: themselves", x.put(0, 6), ThirdAlike.STATE);
        Check.due("6: somebody", x.put(0, 3), ThirdAlike.STATE);
        Check.due("6: no such house", x.put(0, 7), ThirdAlike.NONE);
        Check.due("6: house -1", x.put(0, -1), ThirdAlike.NONE);
        Check.due("6: no such one", x.put(2, 0), ThirdAlike.NONE);
        Check.due("6: one -1", x.put(-1, 3), ThirdAlike.NONE);
        Check.due("6: far off", x.put(HIGH, LOW), ThirdAlike.NONE);
        Check.due("6: back", x.put(0, 2), 6);
    }

    private static void feed() {
        ThirdAlike x = new ThirdAlike();
        Check.due("7: feed(-1)", x.feed(-1), ThirdAlike.BAD);
        Check.due("7: feed(128)", x.feed(128), ThirdAlike.BAD);
        Check.due("7: feed(least)", x.feed(LOW), ThirdAlike.BAD);
        for (int i = 1; i <= 100; i++) {
            Check.due("7: sign " + i, x.feed(i == 1 ? 0 : i == 2 ? 127 : 'w'), i);
        }
        Check.due("7: full", x.feed('w'), ThirdAlike.FULL);
        Check.due("7: bad ahead of full", x.feed(128), ThirdAlike.BAD);
        Check.due("7: 100 bytes", x.count(3), 100);
        Check.due("7: sign 0 begins no street", x.street(), -10);
        Check.due("7: empty then", x.feed('w'), 1);
    }

    private static void streetFaults() {
        fault("", 0);
        fault("Wish 1 p=1", 0);
        fault(" wish 1 p=1", 0);
        fault("w", 1);
        fault("wosh", 1);
        fault("wish", 4);
        fault("wish1", 4);
        fault("wish ", 5);
        fault("wish  1 p=1", 5);
        fault("wish x", 5);
        fault("wish 1", 6);
        fault("wish 1p", 6);
        fault("wish 12", 7);
        fault("wish 123", 7);
        fault("wish 1 ", 7);
        fault("wish 1  p=1", 7);
        fault("wish 1 )", 7);
        fault("wish 1 q=1", 7);
        fault("wish 1 p", 8);
        fault("wish 1 p1", 8);
        fault("wish 1 p!", 8);
        fault("wish 1 ()", 8);
        fault("wish 1 p=", 9);
        fault("wish 1 p==1", 9);
        fault("wish 1 p= 1", 9);
        fault("wish 1 p=1)", 10);
        fault("wish 1 p=1 ", 10);
        fault("wish 1 p=1&", 11);
        fault("wish 1 p=1|", 11);
        fault("wish 1 p=1;", 11);
        fault("wish 1 p=1;;", 11);
        fault("wish 1 p=1&|", 11);
        fault("wish 1 p=1; wish", 11);
        fault("wish 1 p=123", 11);
        fault("wish 1 ((p=1)", 13);
        fault("wish 1 (p=1;", 11);
        fault("wish 1 !!!!!p=1", 11);
        fault("wish 1 (((((p=1)))))", 11);
        fault("wish 1 !(!(!p=1))", 11);
        fault("wish 1 !(!((p=1)))", 11);
        fault("most 1 p=1;d", 12);
        fault("most 1 p=1;dearth", 15);
        fault("dear 1 p=1;mist", 12);
        fault("damp", 1);
        fault("mild", 1);
        stands("wish 1 p=1");
        stands("wish 01 p=01");
        stands("most 0 !!!!p=1");
        stands("dear 99 ((((m>99))))");
        stands("dear 99 !(!(m>99|k<3&h=4))&!f=3");
        stands("dear 99 (s<1)|(!!!s<2)&((((s>1))))");
        StringBuilder nine = new StringBuilder("wish 1 p=1");
        for (int i = 1; i < 9; i++) {
            nine.append(";dear 1 p=").append(i);
        }
        stands(nine.toString());
        fault(nine + ";w", 100);
        fault(nine + "; ", 99);
    }

    private static void fault(String text, int place) {
        ThirdAlike x = new ThirdAlike();
        Check.due("8: a first street", Check.street(x, "wish 7 p<9"), 0);
        Check.due("8: street of '" + text + "'", Check.street(x, text), -10 - place);
        Check.due("8: the text is empty then", x.count(3), 0);
        Check.due("8: no street more", x.count(1), 1);
        x.person(0, 0, 0, 0);
        Check.due("8: the one that held holds", x.of(0, 4), 7);
    }

    private static void stands(String text) {
        ThirdAlike x = new ThirdAlike();
        Check.due("8: street of '" + text + "'", Check.street(x, text), 0);
        Check.due("8: the text is empty then", x.count(3), 0);
        Check.due("8: a street more", x.count(1), 1);
    }

    /** Of which of six people in houses 0, 2, 3, 4, 5, 7, of SORTS and KINDS 0, 1, 2, 0, 1, 2, an E holds. */
    private static void means(String test, int bits) {
        ThirdAlike x = new ThirdAlike();
        x.town(8, 1);
        int[] houses = {0, 2, 3, 4, 5, 7};
        for (int p = 0; p < 6; p++) {
            x.person(p % 3, 0, p % 3, houses[p]);
        }
        Check.due("8: street of " + test, Check.street(x, "dear 1 " + test), 0);
        int got = 0;
        for (int p = 0; p < 6; p++) {
            got |= x.of(p, 6) << p;
        }
        Check.due("8: E " + test, got, bits);
    }

    private static void streetMeaning() {
        means("p=2", 4);
        means("p<2", 3);
        means("p>2", 56);
        means("s=1", 18);
        means("k=2", 36);
        means("h=3", 4);
        means("h>04", 48);
        // those around: 1, 3, 3, 3, 3, 1
        means("f=1", 33);
        means("f=3", 30);
        means("m=0", 63);
        means("m>0", 0);
        means("!p=2", 59);
        means("!!p=2", 4);
        means("p=0|p=1&s=0", 1);
        means("(p=0|p=1)&s=0", 1);
        means("p=1&s=0|p=0", 1);
        means("p=3|p=4&s=1", 24);
        means("(p=3|p=4)&s=1", 16);
        means("!p=3&s=0", 1);
        means("!(p=3&s=0)", 55);
        means("p=0|p=1|p=2|p=3", 15);
        means("p>0&p>1&p>2&p<5", 24);
        means("p=0|(p=1|(p=2|(p=3|p=4&s=1)&k=0)&p<9)", 15);
        means("p=0|(p=1|(p=2|(p=3|p=4&s=1)&k=1)&p>1)&p>0", 23);
    }

    private static void streetNumbers() {
        ThirdAlike x = new ThirdAlike();
        x.person(0, 0, 0, 0);
        for (int i = 0; i < 6; i++) {
            Check.due("8: street " + i, Check.street(x, "wish " + i + " p<9"), i);
            Check.due("8: the newest holds", x.of(0, 4), i);
            Check.due("8: a faulty one", Check.street(x, "wish"), i < 5 ? -14 : ThirdAlike.FULL);
        }
        Check.due("8: the text stays", x.count(3), 4);
        Check.due("8: full", x.street(), ThirdAlike.FULL);
        Check.due("8: the newest still holds", x.of(0, 4), 5);
        Check.due("8: six", x.count(1), 6);
    }

    private static void told() {
        ThirdAlike x = new ThirdAlike();
        x.town(8, 1);
        x.person(0, 0, 0, 0);
        x.person(0, 0, 0, 1);
        x.person(0, 0, 1, 2);
        x.person(0, 0, 0, 7);
        int[] want = {8, 1, 0, 1, 3, 11, 120};
        for (int what = 0; what < want.length; what++) {
            Check.due("9: told(" + what + ")", x.told(what), want[what]);
        }
        Check.due("9: 2 goes", x.move(), 24);
        int[] then = {8, 1, 1, 1, 1, 15, 108};
        for (int what = 0; what < then.length; what++) {
            Check.due("9: then told(" + what + ")", x.told(what), then[what]);
        }
        Check.due("9: told(7)", x.told(7), ThirdAlike.NONE);
        Check.due("9: told(-1)", x.told(-1), ThirdAlike.NONE);
        Check.due("9: told(greatest)", x.told(HIGH), ThirdAlike.NONE);
    }
}
