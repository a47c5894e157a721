/**
 * The boundary cases that the promises 10 to 19 name, and the terms behind them: move, run, rest, again, mixed, few, edge,
 * begins, holds, before. In a RING of five every HOUSE is a NEIGHBOUR of every other one.
 */
public final class EdgeMovesTest {
    private static final int LOW = Check.LOW, HIGH = Check.HIGH;
    private static final int RING = 0, ROW = 1, BLOCK = 2;
    private static final int NONE = ThirdAlike.NONE, STATE = ThirdAlike.STATE;

    public static void main(String[] args) {
        move();
        moveBy9999();
        run();
        runRefuses();
        rest();
        restBehindHundred();
        again();
        againBehindHundred();
        mixed();
        mixedOfSeveral();
        mixedRefuses();
        few();
        edge();
        begins();
        beginsBy20Moves();
        holds();
        before();
        beforeOfTheLeastPair();
        beforeByMovesOneLess();
        beforeRefuses();
        Check.end();
    }

    /** 0, a MOVER of SORT 0 in HOUSE 2 of a RING of five, 1 of SORT 1 in 4. */
    private static ThirdAlike two(String text) {
        return Check.live(5, RING, text, 0, 0, 0, 2, 0, 0, 1, 4);
    }

    /** Side by side, of three SORTS: when 0 has gone to 5, the others have no HOUSE in which they would be CONTENT. */
    private static ThirdAlike three() {
        return Check.live(8, ROW, "", 0, 0, 0, 0, 0, 0, 1, 1, 0, 0, 2, 2);
    }

    private static void walk(ThirdAlike x, int moves) {
        for (int i = 0; i < moves; i++) {
            Check.holds("somebody moves", x.move() >= 0);
        }
    }

    // ---- move, run, rest, again

    private static void move() {
        Check.due("10: move, who 0 to HOUSE 0", two("wish 50 p=0&h=2").move(), 0);
        ThirdAlike last = Check.live(8, ROW, "wish 50 p=5&!h=7", 0, 0, 0, 0, 0, 0, 0, 1, 0, 0, 0, 2, 0, 0, 0, 3, 0, 0, 0, 6, 0, 0, 1, 5);
        Check.due("10: move, who 5 to HOUSE 7", last.move(), 57);
        ThirdAlike content = two("wish 0 p=0");
        Check.due("10: move, nobody does, all are CONTENT", content.move(), -5);
        Check.due("10: move, nobody does: MOVES stay", content.told(2), 0);
        ThirdAlike nowhere = two("wish 50 p<9");
        Check.due("10: move, nobody does, none goes anywhere", nowhere.move(), -5);
        Check.due("10: move, nobody does: all live where they did", nowhere.of(0, 3) * 10 + nowhere.of(1, 3), 24);
        Check.due("10: move, nobody is there", new ThirdAlike().move(), -5);
    }

    /**
     * So many MOVES take more calls than an object is used for: an object that counts otherwise by then is not judged. MOVES
     * 9999 are 39 modulo 60, and what is asked goes on from there.
     */
    private static void moveBy9999() {
        ThirdAlike x = Check.chase(";dear 1 m=39;dear 2 m=40");
        for (int i = 0; i < 9998; i++) {
            x.move();
        }
        if (x.told(2) != 9998) {
            System.out.println("10: MOVES of 9998 were not met");
            return;
        }
        Check.holds("10: move, there were 9998", x.move() >= 0);
        Check.due("10: move, there were 9998: 9999 now", x.told(2), 9999);
        int lives = x.of(0, 3);
        Check.due("10: move, there were 9999", x.move(), STATE);
        Check.due("10: move, there were 9999: MOVES stay", x.told(2), 9999);
        Check.due("10: move, there were 9999: all live where they did", x.of(0, 3), lives);
        Check.due("10: move, there were 9999: again", x.move(), STATE);
        Check.due("11: run, MOVES also beyond 9999", x.run(100, 0), 100);
        Check.due("12: rest, MOVES also beyond 9999", x.rest(), -5);
        Check.due("13: again, MOVES also beyond 9999", x.again(), 4);
        Check.due("8: TEST, m of 9999 MOVES", x.of(0, 6), 1);
        Check.due("9: told, 2 MOVES", x.told(2), 9999);
        thereAndBackFrom9999(x);
    }

    /** Behind 9999 MOVES 0, 1, 2 live in 2, 0, 3; by m 39 0 goes to 1, by m 40 back, and rests. */
    private static void thereAndBackFrom9999(ThirdAlike x) {
        x.town(5, RING);
        Check.due("8: street", Check.street(x, "wish 60 p=0&m=39&!h=1;wish 60 p=0&m=40&!h=2"), 1);
        Check.due("11: run, MOVES beyond 9999 are counted on", x.run(100, 0), 2);
        Check.due("12: rest, MOVES beyond 9999 are counted on", x.rest(), 2);
        Check.due("13: again, MOVES beyond 9999 are counted on", x.again(), 2);
        x.book(1);
        x.book(2);
        Check.due("23: looked, MOVES beyond 9999 are counted on", x.looked(), -5);
    }

    private static void run() {
        ThirdAlike x = three();
        Check.due("11: run, n 0: none goes", x.run(0, 0), 0);
        Check.due("11: run, n 0: LIKE PAIRS now", x.run(0, 1), 0);
        Check.due("11: run, n 0: HAPPY now", x.run(0, 2), 0);
        Check.due("11: run, n 0: the HOUSE now", x.run(0, 10), 0);
        Check.due("11: run, n 1", x.run(1, 0), 1);
        Check.due("11: run, n 1: the HOUSE then", x.run(1, 10), 5);
        Check.due("11: run, n 1: HAPPY then", x.run(1, 2), 1);
        Check.due("11: run, n 2, fewer, as nobody moves", x.run(2, 0), 1);
        Check.due("11: run, n 100, fewer, as nobody moves", x.run(100, 0), 1);
        Check.due("11: run, n 100, fewer: the HOUSE then", x.run(100, 10), 5);
        Check.due("11: run, n 100, nobody there", new ThirdAlike().run(100, 0), 0);
        Check.due("11: run, changes nothing", x.of(0, 3) * 10 + x.told(2), 0);
        ThirdAlike on = Check.chase("");
        Check.due("11: run, n 99", on.run(99, 0), 99);
        Check.due("11: run, n 100, the most", on.run(100, 0), 100);
        Check.due("11: run, n 100: the HOUSE then, all as now", on.run(100, 10), 1);
        Check.due("11: run, n 99: the HOUSE then, otherwise", on.run(99, 10), 2);
    }

    private static void runRefuses() {
        ThirdAlike x = three();
        Check.due("11: run, what 12, of the last one of three", x.run(0, 12), 2);
        Check.due("11: run, what 13, of no such one", x.run(0, 13), -10001);
        Check.due("11: run, what 3", x.run(0, 3), -10001);
        Check.due("11: run, what 9", x.run(0, 9), -10001);
        Check.due("11: run, what -1", x.run(0, -1), -10001);
        Check.due("11: run, the least what of all", x.run(0, LOW), -10001);
        Check.due("11: run, the greatest what of all", x.run(0, HIGH), -10001);
        Check.due("11: run, what 10, nobody there", new ThirdAlike().run(0, 10), -10001);
        Check.due("11: run, n -1", x.run(-1, 0), -10002);
        Check.due("11: run, n 101", x.run(101, 0), -10002);
        Check.due("11: run, the least n of all", x.run(LOW, 1), -10002);
        Check.due("11: run, the greatest n of all", x.run(HIGH, 2), -10002);
        Check.due("11: run, n 101, of one", x.run(101, 10), -10002);
        Check.due("11: run, what is named ahead of n", x.run(101, 3), -10001);
        Check.due("11: run, no such one is named ahead of n", x.run(-1, 13), -10001);
    }

    private static void rest() {
        ThirdAlike x = three();
        Check.due("12: rest, behind 1", x.rest(), 1);
        x.move();
        Check.due("12: rest, behind 0", x.rest(), 0);
        Check.due("12: rest, nobody there", new ThirdAlike().rest(), 0);
        Check.due("12: rest, not CONTENT, but none goes anywhere", two("wish 50 p<9").rest(), 0);
        Check.due("12: rest, never", Check.chase("").rest(), -5);
    }

    private static void restBehindHundred() {
        ThirdAlike x = Check.live(7, ROW, "wish 50 p=0&!m=7;most 0 p=1&!p=2;wish 60 p=2&m<30", 3, 6, 1, 3, 6, 2, 1, 5, 6, 7, 0, 4);
        walk(x, 25);
        Check.due("12: rest, behind 101: not by then", x.rest(), -5);
        walk(x, 1);
        Check.due("12: rest, behind 100, the most", x.rest(), 100);
        walk(x, 1);
        Check.due("12: rest, behind 99", x.rest(), 99);
        walk(x, 99);
        Check.due("12: rest, behind 100 nobody moves", x.move(), -5);
    }

    private static void again() {
        ThirdAlike x = two("wish 50 p=0&m=0&!h=0;wish 50 p=0&m=1&!h=2");
        Check.due("13: again, behind 2, there and back", x.again(), 2);
        ThirdAlike rests = two("wish 50 p=0&m=0&!h=0;wish 50 p=0&m=1&!h=2;wish 0 p=1");
        rests.move();
        rests.move();
        Check.due("13: again, nobody moves: never, though all live as now", rests.again(), -5);
        Check.due("13: again, comes to rest elsewhere", three().again(), -5);
        Check.due("13: again, nobody there", new ThirdAlike().again(), -5);
        Check.due("13: again, behind 4, when all do, not some", Check.chase("").again(), 4);
        ThirdAlike six = Check.live(8, RING, "wish 50 p=0&m=0&!h=0;wish 50 p=0&m=1&!h=2", 0, 0, 0, 2, 0, 0, 1, 1, 0, 0, 1, 3, 0, 0, 1, 4,
            0, 0, 1, 6, 0, 0, 1, 7);
        Check.due("13: again, behind 2, of six", six.again(), 2);
    }

    private static void againBehindHundred() {
        ThirdAlike x = Check.live(6, RING, "wish 50 p=0&!f>1;most 0 p=1&!m>20;wish 60 h<3", 4, 8, 1, 4, 3, 6, 0, 3, 0, 8, 0, 0);
        walk(x, 21);
        Check.due("13: again, behind 100, the most", x.again(), 100);
        ThirdAlike later = Check.live(6, RING, "wish 50 p=0&!f>1;most 0 p=1&!m<30;wish 60 s=0", 2, 4, 1, 2, 2, 7, 0, 0, 6, 5, 0, 1);
        walk(later, 23);
        Check.due("13: again, behind 101: not by then", later.again(), -5);
        int lived = later.of(0, 3) * 100 + later.of(1, 3) * 10 + later.of(2, 3);
        walk(later, 101);
        Check.due("13: again, behind 101 all do", later.of(0, 3) * 100 + later.of(1, 3) * 10 + later.of(2, 3), lived);
    }

    // ---- mixed, few

    private static void mixed() {
        Check.due("14: mixed, nobody there", new ThirdAlike().mixed(-1), 0);
        ThirdAlike never = two("wish 50 p=0");
        Check.due("14: mixed, LIKE PAIRS: there is none", never.mixed(-1), -5);
        Check.due("14: mixed, the HOUSE of 0: there is none", never.mixed(0), -5);
        Check.due("14: mixed, the HOUSE of the last one: there is none", never.mixed(1), -5);
        ThirdAlike apart = Check.live(4, ROW, "wish 0 p<9", 0, 0, 0, 1, 0, 0, 0, 2);
        Check.due("14: mixed, the fewest LIKE PAIRS: 0", apart.mixed(-1), 0);
        Check.due("14: mixed, the fewest LIKE PAIRS: as far as they can", apart.mixed(0) * 10 + apart.mixed(1), 3);
        ThirdAlike beside = Check.live(3, ROW, "wish 0 p<9", 0, 0, 0, 1, 0, 0, 0, 2);
        Check.due("14: mixed, the fewest LIKE PAIRS: 1", beside.mixed(-1), 1);
        Check.due("14: mixed, changes nothing", beside.of(0, 3) * 10 + beside.of(1, 3), 12);
        ThirdAlike only = two("wish 50 p=0&!h=3;wish 50 p=1&!h=0");
        Check.due("14: mixed, all being CONTENT: 0 in 3", only.mixed(0), 3);
        Check.due("14: mixed, all being CONTENT: 1 in 0", only.mixed(1), 0);
    }

    private static void mixedOfSeveral() {
        ThirdAlike all = Check.live(8, RING, "wish 0 p<9", 0, 0, 0, 7, 0, 0, 1, 6, 0, 0, 2, 5);
        Check.due("14: mixed, of several the first: of 0", all.mixed(0), 0);
        Check.due("14: mixed, of several the first: of 1", all.mixed(1), 1);
        Check.due("14: mixed, of several the first: of 2", all.mixed(2), 2);
        ThirdAlike row = Check.live(4, ROW, "wish 0 p<9", 0, 0, 0, 3, 0, 0, 0, 0);
        Check.due("14: mixed, of several the first as a row, not as they live now: of 0", row.mixed(0), 0);
        Check.due("14: mixed, of several the first as a row, not as they live now: of 1", row.mixed(1), 3);
        ThirdAlike second = two("wish 50 p=0&h=0;wish 50 p=1&h=2|p=1&h=3");
        Check.due("14: mixed, the first row in which all are CONTENT: of 0", second.mixed(0), 1);
        Check.due("14: mixed, the first row in which all are CONTENT: of 1", second.mixed(1), 0);
        ThirdAlike full = Check.live(3, RING, "wish 50 p=2&!h=0;wish 0 p<2", 0, 0, 0, 0, 0, 0, 1, 1, 0, 0, 2, 2);
        Check.due("14: mixed, no HOUSE free: of 0", full.mixed(0), 1);
        Check.due("14: mixed, no HOUSE free: of 1", full.mixed(1), 2);
        Check.due("14: mixed, no HOUSE free: of 2", full.mixed(2), 0);
    }

    private static void mixedRefuses() {
        ThirdAlike x = two("wish 0 p=0");
        Check.due("14: mixed, of 1, the last of two", x.mixed(1), 1);
        Check.due("14: mixed, of 2, no such one of two", x.mixed(2), -10001);
        Check.due("14: mixed, of -2", x.mixed(-2), -10001);
        Check.due("14: mixed, of the least number of all", x.mixed(LOW), -10001);
        Check.due("14: mixed, of the greatest number of all", x.mixed(HIGH), -10001);
        Check.due("14: mixed, of 0, nobody there", new ThirdAlike().mixed(0), -10001);
        Check.due("14: mixed, no such one is named ahead of no such way", two("wish 50 p=0").mixed(2), -10001);
    }

    private static void few() {
        Check.due("15: few, nobody there", new ThirdAlike().few(), 0);
        Check.due("15: few, all are CONTENT now", two("wish 50 p=0&!h=2").few(), 0);
        Check.due("15: few, one", two("wish 50 p=0&h=2").few(), 1);
        Check.due("15: few, there is no way", two("wish 50 p=0").few(), -5);
        ThirdAlike change = Check.live(3, RING, "wish 50 p=0&!h=1", 0, 0, 0, 0, 0, 0, 1, 1, 0, 0, 2, 2);
        Check.due("15: few, two, as no HOUSE is free", change.few(), 2);
        ThirdAlike all = Check.live(3, RING, "wish 50 p=0&!h=1;wish 50 p=1&!h=2", 0, 0, 0, 0, 0, 0, 1, 1, 0, 0, 2, 2);
        Check.due("15: few, all of them", all.few(), 3);
        Check.due("15: few, changes nothing", all.of(0, 3) * 100 + all.of(1, 3) * 10 + all.of(2, 3), 12);
    }

    // ---- edge, begins

    private static void edge() {
        Check.due("16: edge, nobody there", new ThirdAlike().edge(), 100);
        Check.due("16: edge, 100: nobody around", Check.live(8, ROW, "most 0 p<9", 0, 0, 0, 0, 0, 0, 1, 7).edge(), 100);
        Check.due("16: edge, 100: all alike", Check.live(3, ROW, "", 0, 0, 0, 0, 0, 0, 0, 1).edge(), 100);
        Check.due("16: edge, 0: none alike", two("").edge(), 0);
        Check.due("16: edge, -5: not even by 0, as one is too much", Check.live(3, ROW, "most 99 p=0", 0, 0, 0, 0, 0, 0, 0, 1).edge(), -5);
        Check.due("16: edge, WISH as told does not matter", two("wish 99 p<9").edge(), 0);
        ThirdAlike third = Check.live(5, RING, "", 0, 0, 0, 0, 0, 0, 0, 1, 0, 0, 1, 2, 0, 0, 1, 3);
        Check.due("16: edge, 33: a third", third.edge(), 33);
        ThirdAlike fifth = Check.live(8, BLOCK, "", 0, 0, 0, 1, 0, 0, 0, 4, 0, 0, 1, 0, 0, 0, 1, 2, 0, 0, 1, 5, 0, 0, 1, 6);
        Check.due("16: edge, 20: a fifth", fifth.edge(), 20);
    }

    private static void begins() {
        Check.due("17: begins, nobody there", new ThirdAlike().begins(), -5);
        Check.due("17: begins, by none, as all are CONTENT by 100", Check.live(3, ROW, "", 0, 0, 0, 0, 0, 0, 0, 1).begins(), -5);
        Check.due("17: begins, by none, as LIKE PAIRS are as many, not more", three().begins(), -5);
        Check.due("17: begins, by none, as LIKE PAIRS are fewer", Check.live(8, ROW, "most 0 p=0", 0, 0, 0, 0, 0, 0, 0, 1).begins(), -5);
        ThirdAlike zero = Check.live(8, RING, "most 60 p=1&h>1", 0, 0, 0, 0, 6, 1, 0, 4, 0, 0, 0, 2);
        Check.due("17: begins, by 0, as TOO MUCH matters", zero.begins(), 0);
        ThirdAlike one = Check.live(8, RING, "wish 99 p<9", 0, 0, 0, 4, 0, 0, 1, 3, 0, 0, 0, 0);
        Check.due("17: begins, by 1, the least by which none alike is too few", one.begins(), 1);
        Check.due("17: begins, changes nothing", one.of(0, 3) * 10 + one.told(2), 40);
        ThirdAlike none = Check.live(8, RING, "wish 0 p<9", 0, 0, 0, 4, 0, 0, 1, 3, 0, 0, 0, 0);
        Check.due("17: begins, by 1, though nobody wishes anything now", none.begins(), 1);
    }

    private static void beginsBy20Moves() {
        int[] people = {6, 0, 0, 3, 0, 9, 0, 0, 4, 7, 1, 1};
        ThirdAlike x = Check.live(8, RING, "wish 1 p<9;most 0 p=1", people);
        Check.due("11: run, LIKE PAIRS now", x.run(0, 1), 0);
        Check.due("11: run, LIKE PAIRS by 19 MOVES", x.run(19, 1), 0);
        Check.due("11: run, LIKE PAIRS by 20 MOVES", x.run(20, 1), 1);
        Check.due("11: run, LIKE PAIRS by 21 MOVES", x.run(21, 1), 0);
        Check.due("17: begins, LIKE PAIRS are more by the 20th MOVE, not by the 19th", x.begins(), 1);
        int[] others = {1, 9, 1, 5, 6, 2, 1, 2, 5, 8, 0, 3};
        ThirdAlike late = Check.live(7, RING, "wish 1 p<9;most 0 p=1", others);
        Check.due("11: run, LIKE PAIRS now", late.run(0, 1), 0);
        Check.due("11: run, LIKE PAIRS by 20 MOVES", late.run(20, 1), 0);
        Check.due("11: run, LIKE PAIRS by 21 MOVES", late.run(21, 1), 1);
        Check.due("17: begins, LIKE PAIRS are more by the 21st MOVE, not by the 20th", late.begins(), -5);
    }

    // ---- holds, before

    private static void holds() {
        Check.due("18: holds, nobody there", new ThirdAlike().holds(), 0);
        Check.due("18: holds, one alone does not hold themselves", Check.live(8, ROW, "", 0, 0, 0, 0).holds(), 0);
        ThirdAlike pair = Check.live(8, ROW, "", 0, 0, 0, 0, 0, 0, 0, 1, 0, 0, 1, 2);
        Check.due("18: holds, two hold one another", pair.holds(), 0b011);
        Check.due("18: holds, changes nothing", pair.told(4), 3);
        Check.due("18: holds, nobody is CONTENT now", three().holds(), 0);
        ThirdAlike most = Check.live(8, ROW, "most 50 p=0;wish 0 p<9", 0, 0, 0, 0, 0, 0, 1, 1, 0, 0, 0, 2);
        Check.due("18: holds, without whom it would be too much", most.holds(), 0b010);
        ThirdAlike few = Check.live(8, ROW, "wish 99 p=0&f<2", 0, 0, 0, 0, 0, 0, 1, 1, 0, 0, 1, 2);
        Check.due("18: holds, without whom f is less", few.holds(), 0b110);
        ThirdAlike numbers = Check.live(5, RING, "wish 34 p=2", 0, 0, 1, 0, 0, 0, 0, 1, 0, 0, 0, 2);
        Check.due("18: holds, the others keep their numbers", numbers.holds(), 0b010);
        ThirdAlike alone = Check.live(8, ROW, "wish 99 p<9", 0, 0, 0, 0, 0, 0, 0, 1);
        Check.due("18: holds, whom nobody else is around is CONTENT", alone.holds(), 0);
    }

    private static void before() {
        ThirdAlike x = two("wish 50 p=0&!h=2");
        Check.due("19: before, how many", x.before(0), 3);
        Check.due("19: before, who", x.before(1), 0);
        Check.due("19: before, from where, the least HOUSE", x.before(2), 0);
        ThirdAlike both = two("wish 50 p=0&!h=2;wish 50 p=1&!h=4");
        Check.due("19: before, of two, how many", both.before(0), 6);
        Check.due("19: before, of two the least", both.before(1), 0);
        Check.due("19: before, of two the least, from where", both.before(2), 0);
        ThirdAlike last = two("wish 50 p=1&!h=4");
        Check.due("19: before, of the last one", last.before(1), 1);
        Check.due("19: before, of the last one, from where", last.before(2), 0);
        ThirdAlike none = two("wish 0 p=0");
        Check.due("19: before, none", none.before(0), 0);
        Check.due("19: before, none, who", none.before(1), -5);
        Check.due("19: before, none, from where", none.before(2), -5);
        ThirdAlike full = Check.live(3, RING, "wish 50 p=0&!h=0", 0, 0, 0, 0, 0, 0, 1, 1, 0, 0, 1, 2);
        Check.due("19: before, no HOUSE is free", full.before(0), 0);
        Check.due("19: before, they would have stayed there", two("wish 50 p=0").before(0), 0);
        Check.due("19: before, they would have gone elsewhere", two("wish 50 p=0&!h=0").before(0), 0);
    }

    private static void beforeOfTheLeastPair() {
        ThirdAlike first = Check.live(5, RING, "wish 50 p=0&!h=0", 0, 0, 0, 0, 0, 0, 1, 4);
        Check.due("19: before, who 0 to HOUSE 0", first.before(0), 3);
        Check.due("19: before, who 0 to HOUSE 0, from where", first.before(2), 1);
        ThirdAlike one = Check.live(3, RING, "wish 50 p=0&!h=0", 0, 0, 0, 0, 0, 0, 1, 1);
        Check.due("19: before, one pair alone", one.before(0), 1);
        Check.due("19: before, one pair alone, who", one.before(1), 0);
        Check.due("19: before, one pair alone, from where, the last HOUSE", one.before(2), 2);
        ThirdAlike who = Check.live(4, RING, "wish 50 p=0&h=3;wish 50 p=1&!h=1", 0, 0, 0, 0, 0, 0, 1, 1);
        Check.due("19: before, 0 from 3, 1 from 2 and 3", who.before(0), 3);
        Check.due("19: before, the least by who, then by HOUSE: who", who.before(1), 0);
        Check.due("19: before, the least by who, then by HOUSE: from where", who.before(2), 3);
    }

    private static void beforeByMovesOneLess() {
        String text = "wish 50 p=0&m=0&!h=2";
        ThirdAlike x = two(text);
        Check.due("19: before, by MOVES 0: 0 at least", x.before(0), 3);
        x.put(0, 1);
        Check.due("10: move, to HOUSE 2", x.move(), 2);
        Check.due("19: before, by MOVES 1: they were 0", x.before(0), 3);
        Check.due("19: before, MOVES stay", x.told(2), 1);
        ThirdAlike lazy = Check.live(5, RING, "wish 50 p=0&!h=2", 5, 0, 0, 2, 0, 0, 1, 4);
        Check.due("19: before, LAZY by MOVES 0", lazy.before(0), 0);
        ThirdAlike later = two("wish 50 p=0&m=1&!h=2;wish 50 p=1&!h=4");
        later.put(1, 3);
        Check.due("10: move, to HOUSE 4", later.move(), 14);
        Check.due("19: before, by MOVES 1, not by 1", later.before(0), 3);
        Check.due("19: before, by MOVES 1, not by 1: who", later.before(1), 1);
        ThirdAlike third = two("wish 50 p=0&m=1&!h=2;wish 50 p=1&h=4");
        for (int i = 0; i < 2; i++) {
            Check.due("10: move, to HOUSE 0", third.move(), 10);
            third.put(1, 4);
        }
        Check.due("19: before, by MOVES 2: they were 1", third.before(0), 3);
    }

    private static void beforeRefuses() {
        ThirdAlike x = two("wish 50 p=0&!h=2");
        Check.due("19: before, what 3", x.before(3), NONE);
        Check.due("19: before, what -1", x.before(-1), NONE);
        Check.due("19: before, the least what of all", x.before(LOW), NONE);
        Check.due("19: before, the greatest what of all", x.before(HIGH), NONE);
        Check.due("19: before, what 3, nobody there", new ThirdAlike().before(3), NONE);
        Check.due("19: before, nobody there: how many", new ThirdAlike().before(0), 0);
        Check.due("19: before, nobody there: who", new ThirdAlike().before(1), -5);
    }
}
