/**
 * The boundary cases that the Terms name in sections 1 and 2: HOUSES and NEIGHBOURS, THE TEXT and its FAULT, WISH, TOO
 * MUCH and COST, CONTENT, GOES TO, a MOVE, PAIRS. In a RING of five every HOUSE is a NEIGHBOUR of every other one.
 */
public final class EdgeTermsTest {
    private static final int RING = 0, ROW = 1, BLOCK = 2;
    private static final int MOVER = 0, NEAR = 1, NEXT = 2, SWAP = 3, PRICE = 4, LAZY = 5, TOLD = 6;

    public static void main(String[] args) {
        ring();
        row();
        block();
        textBounds();
        clauseFaults();
        testFaults();
        nesting();
        earlyEnds();
        whatHolds();
        facts();
        factsOfTheHouseGoneTo();
        movesModuloSixty();
        wish();
        tooMuch();
        cost();
        content();
        mover();
        near();
        next();
        swap();
        swapWithoutOne();
        price();
        lazy();
        told();
        whoGoes();
        pairs();
        Check.end();
    }

    private static void neighbours(String which, int n, int shape, int house, int bits) {
        Check.due("3: NEIGHBOURS, " + which, Check.live(n, shape, "").neighbours(house), bits);
    }

    private static void ring() {
        neighbours("RING of 8: 0 is beside 6 and 7, round", 8, RING, 0, 0b11000110);
        neighbours("RING of 8: 1 is beside 7, round", 8, RING, 1, 0b10001101);
        neighbours("RING of 8: 6 is beside 0, round", 8, RING, 6, 0b10110001);
        neighbours("RING of 8: 7 is beside 0 and 1, round", 8, RING, 7, 0b01100011);
        neighbours("RING of 8: 3 is not beside 0 or 6, 3 apart", 8, RING, 3, 0b00110110);
        neighbours("RING of 6: 0 is not beside 3, 3 apart", 6, RING, 0, 0b110110);
        neighbours("RING of 5: 2 is beside all but itself", 5, RING, 2, 0b11011);
        neighbours("RING of 3: 1 is beside both others, not itself", 3, RING, 1, 0b101);
        neighbours("RING of 4: 2 more and 2 less is one", 4, RING, 0, 0b1110);
        ThirdAlike three = Check.live(3, RING, "", MOVER, 0, 0, 0, MOVER, 0, 0, 1, MOVER, 0, 1, 2);
        Check.due("3: NEIGHBOURS, RING of 3: one that is so twice is one, of ALL PAIRS", three.told(4), 3);
        Check.due("3: NEIGHBOURS, RING of 3: one that is so twice is one, of LIKE PAIRS", three.told(3), 1);
        ThirdAlike four = Check.live(4, RING, "dear 1 f=1;dear 2 f=2", MOVER, 0, 0, 0, MOVER, 0, 0, 2);
        Check.due("3: NEIGHBOURS, RING of 4: one that is so twice is one of f", four.of(0, 6), 1);
    }

    private static void row() {
        neighbours("ROW of 8: 0 has none less", 8, ROW, 0, 0b00000110);
        neighbours("ROW of 8: 1 has one less", 8, ROW, 1, 0b00001101);
        neighbours("ROW of 8: 6 has one more", 8, ROW, 6, 0b10110000);
        neighbours("ROW of 8: 7 has none more", 8, ROW, 7, 0b01100000);
        neighbours("ROW of 8: 3 is not beside 0 or 6, 3 apart", 8, ROW, 3, 0b00110110);
        neighbours("ROW of 3: 0 is beside both others", 3, ROW, 0, 0b110);
        neighbours("ROW of 4: 0 is not beside 3", 4, ROW, 0, 0b0110);
    }

    private static void block() {
        neighbours("BLOCK of 8: 3 ends a row, 4 begins the next", 8, BLOCK, 3, 0b11000100);
        neighbours("BLOCK of 8: 4 is beside 0, 1 and 5, not 3", 8, BLOCK, 4, 0b00100011);
        neighbours("BLOCK of 8: 0 is not beside 3, no columns round", 8, BLOCK, 0, 0b00110010);
        neighbours("BLOCK of 8: 5 is beside five, slantwise too", 8, BLOCK, 5, 0b01010111);
        neighbours("BLOCK of 8: 1 is not beside 3, two columns apart", 8, BLOCK, 1, 0b01110101);
        neighbours("BLOCK of 8: 7 ends the last row", 8, BLOCK, 7, 0b01001100);
        neighbours("BLOCK of 5: 3 is beside 2 alone", 5, BLOCK, 3, 0b00100);
        neighbours("BLOCK of 5: 4 alone is in the second row", 5, BLOCK, 4, 0b00011);
        neighbours("BLOCK of 4: one row alone", 4, BLOCK, 0, 0b0010);
        neighbours("BLOCK of 3: 2 is beside 1 alone", 3, BLOCK, 2, 0b010);
    }

    // ---- THE TEXT

    private static void fault(String which, String text, int place) {
        Check.due("8: FAULT, " + which + ": '" + text + "'", Check.street(new ThirdAlike(), text), -10 - place);
    }

    private static void stands(String which, String text) {
        Check.due("8: STREET, " + which + ": '" + text + "'", Check.street(new ThirdAlike(), text), 0);
    }

    private static String times(String part, int n) {
        return part.repeat(n);
    }

    private static void textBounds() {
        String hundred = "wish 1 p=01|p=01" + times("|p=1", 21);
        Check.due("7: THE TEXT of 100 bytes", hundred.length(), 100);
        stands("100 bytes", hundred);
        fault("100 bytes, the last one is none", hundred.substring(0, 99) + "x", 99);
        fault("100 bytes, ends too early", hundred.substring(0, 96) + "|p=1".substring(0, 3) + "=", 99);
        ThirdAlike nine = Check.live(8, RING, "dear 1 p=0" + times(";dear 1 p=0", 8), MOVER, 0, 0, 0);
        Check.due("8: CLAUSES, nine of the shortest, as many as 100 bytes hold", nine.of(0, 6), 9);
        fault("behind nine CLAUSES a tenth that ends too early", "dear 1 p=0" + times(";dear 1 p=0", 8) + ";d", 100);
        stands("one CLAUSE", "dear 1 p=0");
        fault("no CLAUSE: THE TEXT is empty", "", 0);
    }

    private static void clauseFaults() {
        fault("; ahead of the first", ";wish 1 p=1", 0);
        fault("; behind the last", "wish 1 p=1;", 11);
        fault("two ;", "wish 1 p=1;;wish 1 p=1", 11);
        fault(", between", "wish 1 p=1,wish 1 p=1", 10);
        fault("no ; between", "wish 1 p=1wish 1 p=1", 10);
        fault("a blank ahead of the word", " wish 1 p=1", 0);
        fault("no blank behind the word", "wish1 p=1", 4);
        fault("two blanks behind the word", "wish  1 p=1", 5);
        fault("no blank behind n", "wish 1p=1", 6);
        fault("two blanks behind n", "wish 1  p=1", 7);
        fault("a blank behind E", "wish 1 p=1 ", 10);
        fault("a blank behind ;", "wish 1 p=1; wish 1 p=1", 11);
        fault("n has no digit", "wish p=1", 5);
        stands("n has 1 digit", "wish 9 p=1");
        stands("n has 2 digits", "wish 99 p=1");
        stands("n begins with 0", "wish 09 p=1");
        fault("n has 3 digits", "wish 100 p=1", 7);
        fault("n is below 0", "wish -1 p=1", 5);
        fault("a great letter", "Wish 1 p=1", 0);
        fault("no such word", "wise 1 p=1", 3);
        fault("most, as far as it is right", "moss 1 p=1", 3);
        fault("dear, as far as it is right", "deal 1 p=1", 3);
        fault("the byte 0", "\0wish 1 p=1", 0);
        fault("the byte 127", "wish 1 p=1\u007f", 10);
        fault("of two the first", "wish 1 q=1;wosh", 7);
    }

    private static void testFaults() {
        fault("no such letter", "wish 1 a=1", 7);
        fault("a number is no TEST", "wish 1 1=1", 7);
        fault("no such relation", "wish 1 p!1", 8);
        fault("two relations", "wish 1 p<=1", 9);
        fault("a TEST's number has no digit", "wish 1 p=&p=1", 9);
        stands("a TEST's number has 1 digit", "wish 1 p=9");
        stands("a TEST's number has 2 digits", "wish 1 p=99");
        fault("a TEST's number has 3 digits", "wish 1 p=100", 11);
        fault("a blank in a TEST", "wish 1 p= 1", 9);
        fault("a blank ahead of &", "wish 1 p=1 &p=1", 10);
        fault("& ahead of the first", "wish 1 &p=1", 7);
        fault("two &", "wish 1 p=1&&p=1", 11);
        fault("two |", "wish 1 p=1||p=1", 11);
        fault("( ) with nothing in it", "wish 1 ()", 8);
        fault(") that closes none", "wish 1 p=1)", 10);
        fault("; within ( )", "wish 1 (p=1;wish 1 p=1)", 11);
        fault("! behind a TEST", "wish 1 p=1!", 10);
        for (char letter : "pskhfm".toCharArray()) {
            for (char relation : "<=>".toCharArray()) {
                stands("each letter with each relation", "most 5 " + letter + relation + "3");
            }
        }
    }

    private static void nesting() {
        stands("( within 3 others", "wish 1 ((((p=1))))");
        fault("( within 4 others", "wish 1 (((((p=1)))))", 11);
        stands("! within 3 others", "wish 1 !!!!p=1");
        fault("! within 4 others", "wish 1 !!!!!p=1", 11);
        stands("( within 3 of !", "wish 1 !!!(p=1)");
        fault("( within 4 of !", "wish 1 !!!!(p=1)", 11);
        stands("! within 3 of (", "wish 1 (((!p=1)))");
        fault("! within 4 of (", "wish 1 ((((!p=1))))", 11);
        fault("( within 4 of both", "wish 1 !(!((p=1)))", 11);
        fault("within 4 others, behind a TEST", "wish 1 ((((p=1&!p=2))))", 15);
        stands("what has ended is none of the others", "wish 1 ((((p=1))))&!!!!p=1|((((p=1))))");
        stands("what has ended within others is none of them", "wish 1 (((!p=1&(p=2)|!p=3)))");
    }

    private static void earlyEnds() {
        String text = "most 12 !(p=1|s<2)&k>3;dear 5 f=01";
        for (int length = 0; length <= text.length(); length++) {
            String part = text.substring(0, length);
            boolean whole = length == 18 || length == 22 || length == 33 || length == 34;
            if (whole) {
                stands("as long as it is whole", part);
            } else {
                fault("it ends too early", part, length);
            }
        }
    }

    private static void whatHolds() {
        ThirdAlike x = Check.live(8, RING, "", MOVER, 0, 0, 0);
        Check.due("8: CLAUSES, none without a STREET: WISH", x.of(0, 4), 33);
        Check.due("8: CLAUSES, none without a STREET: TOO MUCH", x.of(0, 5), 100);
        Check.due("8: CLAUSES, none without a STREET: COST", x.of(0, 6), 0);
        Check.street(x, "wish 1 p=0;most 2 p=0;dear 3 p=0");
        Check.street(x, "wish 4 p=0");
        Check.due("8: STREET, the newest holds: WISH", x.of(0, 4), 4);
        Check.due("8: STREET, the newest alone holds: TOO MUCH", x.of(0, 5), 100);
        Check.due("8: STREET, the newest alone holds: COST", x.of(0, 6), 0);
    }

    // ---- of one in a HOUSE

    /** Whether a TEST holds of the last of six who live in a BLOCK of eight, in 0, 2, 4, 5, 6 and where it is told. */
    private static void test(String test, int kind, int sort, int house, int due) {
        ThirdAlike x = Check.live(8, BLOCK, "dear 1 " + test, MOVER, 0, 0, 0, MOVER, 0, 0, 2, MOVER, 0, 0, 4, MOVER, 0, 0, 5,
            MOVER, 0, 0, 6, kind, 0, sort, house);
        Check.due("8: TEST, " + test, x.of(5, 6), due);
    }

    private static void facts() {
        test("p=5", 0, 0, 1, 1);
        test("p<5", 0, 0, 1, 0);
        test("p>5", 0, 0, 1, 0);
        test("p<6", 0, 0, 1, 1);
        test("p>4", 0, 0, 1, 1);
        test("s=2", 0, 2, 1, 1);
        test("s=0", 0, 0, 1, 1);
        test("k=6", 6, 0, 1, 1);
        test("k=0", 0, 0, 1, 1);
        test("h=7", 0, 0, 7, 1);
        test("h=1", 0, 0, 1, 1);
        test("f=5", 0, 0, 1, 1);
        test("f>4", 0, 0, 1, 1);
        test("f=2", 0, 0, 7, 1);
        test("f=05", 0, 0, 1, 1);
        test("f<50", 0, 0, 1, 1);
        ThirdAlike alone = Check.live(8, BLOCK, "dear 1 f=0;dear 2 p=0", MOVER, 0, 0, 0, MOVER, 0, 0, 2);
        Check.due("8: TEST, f=0: nobody in its NEIGHBOURS", alone.of(0, 6), 3);
        ThirdAlike both = Check.live(8, RING, "dear 1 p=0|p=1&p=1;dear 2 (p=0|p=1)&p=1;dear 4 !p=1&p=1;dear 8 !(p=1&p=1)", MOVER, 0, 0, 0);
        Check.due("8: E, & ahead of |, ! ahead of &", both.of(0, 6), 9);
    }

    private static void factsOfTheHouseGoneTo() {
        ThirdAlike own = Check.live(8, ROW, "wish 99 p=0&h=0;dear 1 f>1", PRICE, 0, 0, 0, MOVER, 0, 1, 1);
        Check.due("8: TEST, f of the HOUSE gone to does not count one's own", own.of(0, 8), 2);
        ThirdAlike there = Check.live(8, ROW, "wish 99 p=0&h=0;dear 1 h=2", PRICE, 0, 0, 0, MOVER, 0, 1, 1);
        Check.due("8: TEST, h is the HOUSE gone to", there.of(0, 8), 3);
    }

    /** 0 of SORT 0 is not CONTENT in 0, goes to 1, and is put back: a MOVE each time. */
    private static ThirdAlike hopper(String more, int... second) {
        return Check.live(5, RING, "wish 50 p=0&h=0" + more, MOVER, 0, 0, 0, second[0], second[1], second[2], second[3]);
    }

    private static void hop(ThirdAlike x) {
        Check.due("10: MOVE, 0 goes to 1", x.move(), 1);
        Check.due("6: put(0, 0)", x.put(0, 0), 1);
    }

    private static void movesModuloSixty() {
        ThirdAlike x = hopper(";dear 1 m=59;dear 2 m=0;dear 4 m=1;dear 8 m>59", MOVER, 0, 1, 4);
        for (int moves = 0; moves <= 61; moves++) {
            int due = moves == 59 ? 1 : moves % 60 == 0 ? 2 : moves % 60 == 1 ? 4 : 0;
            Check.due("8: TEST, m is MOVES modulo 60, by " + moves, x.of(1, 6), due);
            hop(x);
        }
    }

    private static void weight(String which, int what, String text, int due) {
        Check.due(which + ": '" + text + "'", Check.live(8, RING, text, MOVER, 0, 0, 0).of(0, what), due);
    }

    private static void wish() {
        weight("5: WISH, no wish CLAUSES at all", 4, "most 5 p=0;dear 6 p=0", 33);
        weight("5: WISH, the one wish CLAUSE does not hold", 4, "wish 5 p=1", 0);
        weight("5: WISH, only those whose E holds", 4, "wish 5 p=1;wish 7 p=0", 7);
        weight("5: WISH, together", 4, "wish 5 p=0;wish 7 p=0", 12);
        weight("5: WISH, 99", 4, "wish 98 p=0;wish 1 p=0", 99);
        weight("5: WISH, 100", 4, "wish 99 p=0;wish 1 p=0", 100);
        weight("5: WISH, 100 at most", 4, "wish 99 p=0;wish 2 p=0", 100);
        weight("5: WISH, 100 at most, of many", 4, "wish 99 p=0;wish 99 p=0;wish 99 p=0", 100);
        weight("5: WISH, 0", 4, "wish 0 p=0", 0);
    }

    private static void tooMuch() {
        weight("5: TOO MUCH, there is none", 5, "wish 5 p=0", 100);
        weight("5: TOO MUCH, there is none whose E holds", 5, "most 5 p=1", 100);
        weight("5: TOO MUCH, the least, first", 5, "most 5 p=0;most 6 p=0", 5);
        weight("5: TOO MUCH, the least, last", 5, "most 6 p=0;most 5 p=0", 5);
        weight("5: TOO MUCH, the least whose E holds", 5, "most 5 p=1;most 6 p=0", 6);
        weight("5: TOO MUCH, 0", 5, "most 0 p=0", 0);
        weight("5: TOO MUCH, 99", 5, "most 99 p=0", 99);
    }

    private static void cost() {
        weight("5: COST, there is none", 6, "wish 5 p=0", 0);
        weight("5: COST, none whose E holds", 6, "dear 5 p=1", 0);
        weight("5: COST, together, beyond 100", 6, "dear 99 p=0;dear 98 p=0", 197);
    }

    /** 0 of SORT 0 in 1 of a BLOCK of eight; of those around some of its SORT, some of another. */
    private static void contentBy(String text, int alike, int around, int due) {
        int[] homes = {0, 2, 4, 5, 6};
        int[] people = new int[4 * around + 4];
        people[3] = 1;
        for (int i = 0; i < around; i++) {
            people[4 * i + 6] = i < alike ? 0 : 1;
            people[4 * i + 7] = homes[i];
        }
        ThirdAlike x = Check.live(8, BLOCK, text, people);
        Check.due("5: CONTENT, " + alike + " alike of " + around + ", '" + text + "'", x.of(0, 7), due);
    }

    private static void content() {
        contentBy("wish 99 p=0;wish 1 p=0;most 0 p=0", 0, 0, 1);
        contentBy("wish 0 p=0", 0, 1, 1);
        contentBy("wish 1 p=0", 0, 1, 0);
        contentBy("wish 50 p=0", 1, 2, 1);
        contentBy("wish 51 p=0", 1, 2, 0);
        contentBy("wish 33 p=0", 1, 3, 1);
        contentBy("wish 34 p=0", 1, 3, 0);
        contentBy("", 1, 3, 1);
        contentBy("", 1, 4, 0);
        contentBy("wish 66 p=0", 2, 3, 1);
        contentBy("wish 67 p=0", 2, 3, 0);
        contentBy("wish 20 p=0", 1, 5, 1);
        contentBy("wish 21 p=0", 1, 5, 0);
        contentBy("wish 99 p=0;wish 1 p=0", 5, 5, 1);
        contentBy("wish 80 p=0", 4, 5, 1);
        contentBy("wish 81 p=0", 4, 5, 0);
        contentBy("most 0 p=0;wish 0 p=0", 0, 1, 1);
        contentBy("most 50 p=0", 1, 2, 1);
        contentBy("most 49 p=0", 1, 2, 0);
        contentBy("most 67 p=0", 2, 3, 1);
        contentBy("most 66 p=0", 2, 3, 0);
        contentBy("most 99 p=0", 1, 1, 0);
        contentBy("wish 9 p=0", 1, 1, 1);
        contentBy("most 40 p=0", 2, 5, 1);
        contentBy("most 39 p=0", 2, 5, 0);
        contentBy("wish 50 p=0;most 50 p=0", 1, 2, 1);
        contentBy("wish 60 p=0;most 40 p=0", 1, 2, 0);
    }

    // ---- GOES TO

    /** 0 of SORT 0 lives in 2 of a RING of five, 1 of SORT 1 in 4, and all others behind them. */
    private static void goes(String which, int due, String text, int kind, int v, int... others) {
        int[] people = new int[8 + others.length];
        System.arraycopy(new int[] {kind, v, 0, 2, MOVER, 0, 1, 4}, 0, people, 0, 8);
        System.arraycopy(others, 0, people, 8, others.length);
        Check.due("5: GOES TO, " + which + ": '" + text + "'", Check.live(5, RING, text, people).of(0, 8), due);
    }

    private static void mover() {
        goes("MOVER, the least free HOUSE", 0, "wish 50 p=0&h=2", MOVER, 0);
        goes("MOVER, the least is not free", 1, "wish 50 p=0&h=2", MOVER, 0, MOVER, 0, 1, 0);
        goes("MOVER, CONTENT in the last free one alone", 3, "wish 50 p=0&!h=3", MOVER, 0);
        goes("MOVER, CONTENT in none", -5, "wish 50 p=0", MOVER, 0);
        goes("MOVER, there is no HOUSE behind the last", -5, "wish 50 p=0&h<5", MOVER, 0);
        goes("MOVER, would be CONTENT where somebody lives", -5, "wish 50 p=0&!h=4", MOVER, 0);
        ThirdAlike full = Check.live(3, RING, "", MOVER, 0, 0, 0, MOVER, 0, 1, 1, MOVER, 0, 2, 2);
        Check.due("5: GOES TO, MOVER, no free HOUSE", full.of(0, 8), -5);
        ThirdAlike last = Check.live(8, ROW, "wish 50 p=0&!h=7;wish 0 p=1", MOVER, 0, 0, 3, MOVER, 0, 1, 2, MOVER, 0, 1, 5);
        Check.due("5: GOES TO, MOVER, the last HOUSE", last.of(0, 8), 7);
        ThirdAlike own = Check.live(8, ROW, "wish 50 p=0", MOVER, 0, 0, 4, MOVER, 0, 1, 5, MOVER, 0, 0, 7, MOVER, 0, 1, 1);
        Check.due("5: GOES TO, MOVER, is none of their own SORT around 2, where they would not be CONTENT", own.of(0, 8), 6);
        ThirdAlike beside = Check.live(8, ROW, "most 0 p=0;wish 0 p=0", MOVER, 0, 0, 0, MOVER, 0, 0, 2);
        Check.due("5: GOES TO, MOVER, their own HOUSE being free then", beside.of(0, 8), 5);
        ThirdAlike freeThen = Check.live(8, ROW, "most 0 p=0;wish 0 p=0", MOVER, 0, 0, 1, MOVER, 0, 0, 3);
        Check.due("5: GOES TO, MOVER, beside their own HOUSE, which is free then", freeThen.of(0, 8), 0);
    }

    private static void near() {
        ThirdAlike ring = Check.live(8, RING, "wish 50 p=0&h=0", NEAR, 0, 0, 0, MOVER, 0, 1, 1);
        Check.due("5: GOES TO, NEAR, apart by numbers, not round", ring.of(0, 8), 2);
        ThirdAlike two = Check.live(8, RING, "wish 50 p=0&h=4", NEAR, 0, 0, 4, MOVER, 0, 1, 3, MOVER, 0, 1, 5);
        Check.due("5: GOES TO, NEAR, of two the lesser", two.of(0, 8), 2);
        ThirdAlike more = Check.live(8, RING, "wish 50 p=0&h=4", NEAR, 0, 0, 4, MOVER, 0, 1, 3);
        Check.due("5: GOES TO, NEAR, the greater, if it is nearer", more.of(0, 8), 5);
        ThirdAlike far = Check.live(8, RING, "wish 50 p=0&h=0", NEAR, 0, 0, 0, MOVER, 0, 1, 1, MOVER, 0, 1, 2, MOVER, 0, 1, 3,
            MOVER, 0, 1, 4, MOVER, 0, 1, 5);
        Check.due("5: GOES TO, NEAR, from 0 to 6", far.of(0, 8), 6);
        ThirdAlike farthest = Check.live(8, BLOCK, "wish 50 p=0&!h=7", NEAR, 0, 0, 0, MOVER, 0, 1, 1, MOVER, 0, 1, 3);
        Check.due("5: GOES TO, NEAR, from 0 to 7, the farthest", farthest.of(0, 8), 7);
        goes("NEAR, from 2 to 0, the first HOUSE", 0, "wish 50 p=0&!h=0", NEAR, 0);
        goes("NEAR, CONTENT in none", -5, "wish 50 p=0", NEAR, 0);
        goes("NEAR, there is no HOUSE behind the last", -5, "wish 50 p=0&h<5", NEAR, 0);
    }

    private static void next() {
        goes("NEXT, the one behind their own", 3, "wish 50 p=0&h=2", NEXT, 0);
        goes("NEXT, round, from behind the last one", 0, "wish 50 p=0&h=2", NEXT, 0, MOVER, 0, 1, 3);
        goes("NEXT, round, as far as the one ahead of their own", 1, "wish 50 p=0&!h=1", NEXT, 0);
        goes("NEXT, CONTENT in none", -5, "wish 50 p=0", NEXT, 0);
        goes("NEXT, there is no HOUSE behind the last", -5, "wish 50 p=0&h<5", NEXT, 0);
        ThirdAlike last = Check.live(8, ROW, "wish 50 p=0&h=7", NEXT, 0, 0, 7, MOVER, 0, 1, 6);
        Check.due("5: GOES TO, NEXT, from the last HOUSE to the first", last.of(0, 8), 0);
        ThirdAlike toLast = Check.live(8, ROW, "wish 50 p=0&h=5", NEXT, 0, 0, 5, MOVER, 0, 1, 6);
        Check.due("5: GOES TO, NEXT, to the last HOUSE", toLast.of(0, 8), 7);
    }

    private static void swap() {
        goes("SWAP, the least other one, not the least HOUSE", 4, "wish 50 p=0&h=2", SWAP, 0, MOVER, 0, 1, 0);
        goes("SWAP, another one ahead of a free HOUSE", 4, "wish 50 p=0&h=2", SWAP, 0, MOVER, 0, 1, 3);
        goes("SWAP, the other one would not be CONTENT", 0, "wish 60 h=2&p<2", SWAP, 0, MOVER, 0, 1, 0);
        goes("SWAP, they would not be CONTENT themselves", 0, "wish 50 p=0&!h=0", SWAP, 0, MOVER, 0, 1, 0);
        ThirdAlike own = Check.live(5, RING, "wish 60 p=0&h=2", SWAP, 0, 0, 2, MOVER, 0, 0, 4, MOVER, 0, 1, 0);
        Check.due("5: GOES TO, SWAP, none of their own SORT", own.of(0, 8), 0);
        ThirdAlike less = Check.live(5, RING, "wish 50 p=1&h=2", MOVER, 0, 1, 4, SWAP, 0, 0, 2);
        Check.due("5: GOES TO, SWAP, the other one may have the lesser number", less.of(1, 8), 4);
        Check.due("10: MOVE, SWAP: who goes and whereto", less.move(), 14);
        Check.due("10: MOVE, SWAP: they change", less.of(0, 3) * 10 + less.of(1, 3), 24);
        Check.due("10: MOVE, SWAP: one MOVE", less.told(2), 1);
        ThirdAlike beside = Check.live(8, ROW, "wish 50 p=0", SWAP, 0, 0, 0, MOVER, 0, 1, 1);
        Check.due("5: GOES TO, SWAP, the other one lives in their own HOUSE then", beside.of(0, 8), 4);
        ThirdAlike content = Check.live(8, ROW, "wish 50 p<2", SWAP, 0, 0, 0, MOVER, 0, 1, 4, MOVER, 0, 1, 2, MOVER, 0, 0, 5);
        Check.due("5: GOES TO, SWAP, both would be CONTENT", content.of(0, 8), 4);
    }

    private static void swapWithoutOne() {
        goes("SWAP, without one as MOVER", 3, "wish 50 p=0&!h=3", SWAP, 0);
        goes("SWAP, without one as MOVER: the least", 0, "wish 50 p=1|h=2", SWAP, 0);
        goes("SWAP, without one and CONTENT in no HOUSE", -5, "wish 50 p=0", SWAP, 0);
        goes("SWAP, without one, there is no HOUSE behind the last", -5, "wish 50 p=0&h<5", SWAP, 0);
        ThirdAlike alike = Check.live(5, RING, "wish 50 p=0&h=2;most 40 h=2", SWAP, 0, 0, 2, MOVER, 0, 0, 4);
        Check.due("5: GOES TO, SWAP, nobody of another SORT: as MOVER", alike.of(0, 8), 0);
    }

    private static void price() {
        goes("PRICE, COST of 10 times v", 1, "wish 50 p=0&h=2;dear 30 h=1", PRICE, 3);
        goes("PRICE, COST of 10 times v and 1", 3, "wish 50 p=0&h=2;dear 31 h=1", PRICE, 3);
        goes("PRICE, COST 0 with v 0", 1, "wish 50 p=0&h=2;dear 99 h=0", PRICE, 0);
        goes("PRICE, COST 1 with v 0", 3, "wish 50 p=0&h=2;dear 1 h=1", PRICE, 0);
        goes("PRICE, COST 90 with v 9", 1, "wish 50 p=0&h=2;dear 90 h=1", PRICE, 9);
        goes("PRICE, COST 91 with v 9", 3, "wish 50 p=0&h=2;dear 91 h=1", PRICE, 9);
        goes("PRICE, COST of their own HOUSE does not matter", 1, "wish 50 p=0&h=2;dear 99 h=2", PRICE, 0);
        goes("PRICE, all too dear", -5, "wish 50 p=0&h=2;dear 91 p=0", PRICE, 9);
        goes("PRICE, from 2 to 0, the first HOUSE", 0, "wish 50 p=0&!h=0", PRICE, 9);
        goes("PRICE, CONTENT in none", -5, "wish 50 p=0", PRICE, 9);
        goes("NEAR, COST does not matter", 1, "wish 50 p=0&h=2;dear 99 p=0;dear 99 p=0", NEAR, 0);
    }

    private static void lazyWith(int v, int last) {
        ThirdAlike x = hopper(";wish 50 p=1&h=2", LAZY, v, 1, 2);
        for (int moves = 0; moves <= last; moves++) {
            Check.due("5: GOES TO, LAZY with v " + v + " by MOVES " + moves, x.of(1, 8), moves % (v + 2) == 0 ? -5 : 3);
            hop(x);
        }
    }

    private static void lazy() {
        lazyWith(0, 5);
        lazyWith(1, 7);
        lazyWith(9, 34);
        lazyWith(5, 71);
        ThirdAlike nowhere = hopper(";wish 50 p=1", LAZY, 0, 1, 2);
        hop(nowhere);
        Check.due("5: GOES TO, LAZY, CONTENT in none", nowhere.of(1, 8), -5);
        ThirdAlike round = hopper(";wish 50 p=1&!h=1", LAZY, 0, 1, 2);
        hop(round);
        Check.due("5: GOES TO, LAZY, as NEXT, round", round.of(1, 8), 1);
    }

    private static void told() {
        goes("TOLD, HOUSE 0, not CONTENT there", 0, "wish 50 p=0", TOLD, 0);
        goes("TOLD, HOUSE 3, ahead of a lesser one in which they would be CONTENT", 3, "wish 50 p=0&h>1", TOLD, 3);
        goes("TOLD, where somebody lives: as SWAP, with them or not", 0, "wish 50 p=0&!h=0", TOLD, 4);
        goes("TOLD, their own HOUSE: as SWAP", 4, "wish 50 p=0&h=2", TOLD, 2);
        goes("TOLD, there is no HOUSE 5 of five: as SWAP", 4, "wish 50 p=0&h=2", TOLD, 5);
        goes("TOLD, as SWAP without one: as MOVER", 3, "wish 50 p=0&!h=3", TOLD, 9);
        goes("TOLD, as SWAP, nowhere", -5, "wish 50 p=0", TOLD, 5);
        goes("TOLD, where somebody lives, nowhere", -5, "wish 50 p=0", TOLD, 4);
        goes("TOLD, their own HOUSE, nowhere", -5, "wish 50 p=0", TOLD, 2);
        ThirdAlike six = Check.live(6, RING, "wish 50 p=0", TOLD, 5, 0, 2, MOVER, 0, 1, 4);
        Check.due("5: GOES TO, TOLD, HOUSE 5 of six", six.of(0, 8), 5);
        ThirdAlike eight = Check.live(8, RING, "wish 50 p=0", TOLD, 7, 0, 2, MOVER, 0, 1, 4);
        Check.due("5: GOES TO, TOLD, HOUSE 7 of eight", eight.of(0, 8), 7);
        ThirdAlike none = Check.live(8, RING, "wish 50 p=0&!h=1", TOLD, 8, 0, 2, MOVER, 0, 1, 4);
        Check.due("5: GOES TO, TOLD, there is no HOUSE 8 of eight: as MOVER", none.of(0, 8), 0);
        ThirdAlike both = Check.live(5, RING, "wish 50 p=0&h=2", TOLD, 2, 0, 2, MOVER, 0, 1, 4);
        Check.due("10: MOVE, TOLD as SWAP", both.move(), 4);
        Check.due("10: MOVE, TOLD as SWAP: both", both.of(0, 3) * 10 + both.of(1, 3), 42);
    }

    // ---- a MOVE, PAIRS

    private static void whoGoes() {
        ThirdAlike x = Check.live(5, RING, "wish 50 p>0&h<3", MOVER, 0, 0, 0, MOVER, 0, 1, 1, MOVER, 0, 2, 2);
        Check.due("10: MOVE, the least who is not CONTENT, not who is", x.move(), 13);
        Check.due("10: MOVE, the others live as they did", x.of(0, 3) * 10 + x.of(2, 3), 2);
        ThirdAlike nowhere = Check.live(5, RING, "wish 50 p=0;wish 50 p=1&h=1", MOVER, 0, 0, 0, MOVER, 0, 1, 1);
        Check.due("10: MOVE, not who goes nowhere", nowhere.move(), 12);
        Check.due("10: MOVES are 1 more", nowhere.told(2), 1);
        Check.due("10: MOVE, nobody goes anywhere", nowhere.move(), -5);
        Check.due("10: MOVES stay, if nobody goes", nowhere.told(2), 1);
        ThirdAlike last = Check.live(8, BLOCK, "wish 50 p=5&h<7", MOVER, 0, 0, 0, MOVER, 0, 0, 1, MOVER, 0, 0, 2, MOVER, 0, 0, 3,
            MOVER, 0, 0, 4, MOVER, 0, 1, 5);
        Check.due("10: MOVE, the last one to the last HOUSE", last.move(), 57);
    }

    private static void pairs() {
        ThirdAlike nobody = new ThirdAlike();
        Check.due("9: LIKE PAIRS of nobody", nobody.told(3), 0);
        Check.due("9: ALL PAIRS of nobody", nobody.told(4), 0);
        Check.due("9: HAPPY, nobody", nobody.told(5), 0);
        ThirdAlike one = Check.live(3, RING, "", MOVER, 0, 0, 0);
        Check.due("9: LIKE PAIRS, none with oneself", one.told(3), 0);
        Check.due("9: ALL PAIRS, none with oneself", one.told(4), 0);
        Check.due("9: HAPPY, one alone", one.told(5), 1);
        ThirdAlike five = Check.live(5, RING, "wish 50 p=4;wish 51 p=0", MOVER, 0, 0, 0, MOVER, 0, 0, 1, MOVER, 0, 1, 2, MOVER, 0, 0, 3,
            MOVER, 0, 1, 4);
        Check.due("9: LIKE PAIRS, each pair once", five.told(3), 4);
        Check.due("9: ALL PAIRS, each pair once", five.told(4), 10);
        Check.due("9: HAPPY, bits", five.told(5), 0b01110);
        ThirdAlike six = Check.live(8, BLOCK, "", MOVER, 0, 2, 0, MOVER, 0, 2, 1, MOVER, 0, 2, 2, MOVER, 0, 2, 4, MOVER, 0, 2, 5,
            MOVER, 0, 2, 6);
        Check.due("9: LIKE PAIRS of six", six.told(3), 11);
        Check.due("9: ALL PAIRS of six", six.told(4), 11);
        Check.due("9: HAPPY, six", six.told(5), 0b111111);
    }
}
