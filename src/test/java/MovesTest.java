/** Promises 10 to 19: move, run, rest, again, mixed, few, edge, begins, holds, before. */
public final class MovesTest {
    private static final int LOW = Integer.MIN_VALUE, HIGH = Integer.MAX_VALUE;

    public static void main(String[] args) {
        move();
        run();
        rest();
        again();
        movesComeRound();
        mixed();
        few();
        edge();
        begins();
        holds();
        before();
        beforeAndLazy();
        Check.end();
    }

    private static void move() {
        ThirdAlike x = Check.chase("");
        int[] gone = {13, 2, 10, 1, 13, 2};
        int[] homes = {130, 230, 203, 103, 130, 230};
        for (int i = 0; i < gone.length; i++) {
            Check.due("10: move() " + i, x.move(), gone[i]);
            Check.due("10: where all live", x.of(0, 3) * 100 + x.of(1, 3) * 10 + x.of(2, 3), homes[i]);
            Check.due("10: MOVES", x.told(2), i + 1);
        }
        ThirdAlike still = new ThirdAlike();
        Check.due("10: nobody", still.move(), -5);
        still.town(3, 0);
        still.person(0, 0, 0, 0);
        still.person(0, 0, 1, 1);
        Check.due("10: none of two has a HOUSE to be CONTENT in", still.move(), -5);
        Check.due("10: no MOVE then", still.told(2), 0);
        still.person(6, 2, 2, 2);
        Check.due("10: no free HOUSE", still.move(), -5);
        ThirdAlike second = new ThirdAlike();
        second.person(0, 0, 0, 0);
        second.person(6, 5, 1, 1);
        Check.due("10: street", Check.street(second, "wish 50 p=1"), 0);
        Check.due("10: the least one who is not CONTENT", second.move(), 15);
        Check.due("10: nobody more", second.move(), -5);
    }

    private static void run() {
        ThirdAlike x = Check.chase("");
        int[][] want = {{0, 1, 5, 1, 0, 3}, {1, 0, 6, 1, 3, 0}, {2, 1, 5, 2, 3, 0}, {3, 0, 6, 2, 0, 3}, {4, 1, 5, 1, 0, 3}, {100, 1, 5, 1, 0, 3}};
        for (int[] row : want) {
            int n = row[0];
            Check.due("11: run(" + n + ", 0)", x.run(n, 0), n);
            Check.due("11: run(" + n + ", 1)", x.run(n, 1), row[1]);
            Check.due("11: run(" + n + ", 2)", x.run(n, 2), row[2]);
            for (int p = 0; p < 3; p++) {
                Check.due("11: run(" + n + ", 1" + p + ")", x.run(n, 10 + p), row[3 + p]);
            }
        }
        Check.due("11: nothing changed", x.told(2) + x.of(0, 3) * 100 + x.of(1, 3) * 10 + x.of(2, 3), 103);
        int[] none = {-1, 3, 9, 13, 15, LOW, HIGH};
        for (int what : none) {
            Check.due("11: what " + what, x.run(1, what), -10001);
            Check.due("11: what " + what + " ahead of n", x.run(-1, what), -10001);
        }
        Check.due("11: n -1", x.run(-1, 0), -10002);
        Check.due("11: n 101", x.run(101, 12), -10002);
        Check.due("11: n least", x.run(LOW, 1), -10002);
        Check.due("11: n greatest", x.run(HIGH, 2), -10002);
        ThirdAlike nobody = new ThirdAlike();
        Check.due("11: nobody goes", nobody.run(100, 0), 0);
        Check.due("11: nobody's HOUSE", nobody.run(0, 10), -10001);
    }

    /** Three of three SORTS side by side: when the first one has gone to 5, the others have no better HOUSE. */
    private static ThirdAlike row() {
        ThirdAlike x = new ThirdAlike();
        x.town(8, 1);
        x.person(0, 0, 0, 0);
        x.person(0, 0, 1, 1);
        x.person(0, 0, 2, 2);
        return x;
    }

    private static void rest() {
        ThirdAlike x = row();
        Check.due("12: rest()", x.rest(), 1);
        Check.due("10: 0 goes", x.move(), 5);
        Check.due("12: at rest", x.rest(), 0);
        Check.due("12: nobody", new ThirdAlike().rest(), 0);
        Check.due("12: never", Check.chase("").rest(), -5);
    }

    private static void again() {
        ThirdAlike x = Check.chase("");
        Check.due("13: again()", x.again(), 4);
        x.move();
        Check.due("13: again() behind a MOVE", x.again(), 4);
        Check.due("13: nothing changed", x.told(2), 1);
        Check.due("13: at rest", new ThirdAlike().again(), -5);
        Check.due("13: comes to rest elsewhere", row().again(), -5);
        ThirdAlike back = new ThirdAlike();
        back.person(5, 6, 0, 0);
        back.person(3, 3, 0, 4);
        back.person(6, 1, 1, 7);
        Check.street(back, "wish 50 m<3;most 10 m>2");
        Check.due("13: comes to rest just then", back.again(), 4);
        Check.due("12: and rests", back.rest(), 4);
    }

    private static void movesComeRound() {
        ThirdAlike x = Check.chase(";dear 7 m=59;dear 9 m=1;dear 1 m>59");
        for (int i = 1; i <= 125; i++) {
            x.move();
            Check.due("8: COST by MOVES " + i, x.of(2, 6), i % 60 == 59 ? 7 : i % 60 == 1 ? 9 : 0);
        }
        Check.due("9: MOVES", x.told(2), 125);
    }

    private static ThirdAlike two(int n, int secondSort, int first, int second, String text) {
        ThirdAlike x = new ThirdAlike();
        x.town(n, 1);
        x.person(0, 0, 0, first);
        x.person(0, 0, secondSort, second);
        if (text.length() > 0) {
            Check.due("street " + text, Check.street(x, text), 0);
        }
        return x;
    }

    private static void mixedIs(String which, ThirdAlike x, int pairs, int home0, int home1) {
        Check.due("14: " + which + ", LIKE PAIRS", x.mixed(-1), pairs);
        Check.due("14: " + which + ", HOUSE of 0", x.mixed(0), home0);
        Check.due("14: " + which + ", HOUSE of 1", x.mixed(1), home1);
        Check.due("14: nothing changed", x.told(2), 0);
    }

    private static void mixed() {
        mixedIs("apart", two(4, 0, 1, 2, "wish 0 p<9"), 0, 0, 3);
        mixedIs("no share is between", two(4, 0, 1, 2, "most 0 p<9"), 0, 0, 3);
        mixedIs("both beside one alike", two(4, 0, 3, 0, "wish 0 p<9"), 0, 0, 3);
        mixedIs("always beside", two(3, 0, 2, 1, ""), 1, 0, 1);
        mixedIs("never CONTENT", two(3, 1, 2, 1, ""), -5, -5, -5);
        mixedIs("1 not in 3", two(4, 1, 0, 3, "wish 0 h<9;wish 50 p=1&h=3"), 0, 0, 1);
        ThirdAlike x = two(4, 0, 1, 2, "");
        int[] none = {-2, 2, LOW, HIGH};
        for (int person : none) {
            Check.due("14: mixed(" + person + ")", x.mixed(person), -10001);
        }
        Check.due("14: nobody", new ThirdAlike().mixed(-1), 0);
        Check.due("14: nobody's HOUSE", new ThirdAlike().mixed(0), -10001);
        ThirdAlike six = new ThirdAlike();
        six.town(8, 1);
        for (int p = 0; p < 6; p++) {
            six.person(0, 0, 0, 5 - p);
        }
        Check.due("14: six alike", six.mixed(-1), 5);
        int[] homes = {0, 1, 3, 4, 6, 7};
        for (int p = 0; p < 6; p++) {
            Check.due("14: six alike, HOUSE of " + p, six.mixed(p), homes[p]);
        }
        Check.due("15: six alike are CONTENT", six.few(), 0);
    }

    private static void few() {
        Check.due("15: both", two(4, 0, 1, 2, "most 0 p<9").few(), 2);
        Check.due("15: one", two(4, 0, 0, 2, "most 0 p<9").few(), 1);
        Check.due("15: none", two(4, 0, 3, 0, "most 0 p<9").few(), 0);
        Check.due("15: no way", two(3, 1, 2, 1, "").few(), -5);
        Check.due("15: nobody", new ThirdAlike().few(), 0);
    }

    /** A row: 0 and 1 of SORT 0 in 2 and 1, 2 and 3 of SORT 1 in 3 and 4. */
    private static ThirdAlike halves(String text) {
        ThirdAlike x = new ThirdAlike();
        x.town(8, 1);
        x.person(0, 0, 0, 2);
        x.person(0, 0, 0, 1);
        x.person(0, 0, 1, 3);
        x.person(0, 0, 1, 4);
        if (text.length() > 0) {
            Check.due("street " + text, Check.street(x, text), 0);
        }
        return x;
    }

    private static void edge() {
        Check.due("16: a third", halves("").edge(), 33);
        Check.due("16: WISH does not matter", halves("wish 99 p<9").edge(), 33);
        Check.due("16: TOO MUCH matters", halves("most 33 p=0").edge(), -5);
        Check.due("16: TOO MUCH is not reached", halves("most 34 p=0").edge(), 33);
        Check.due("16: a half", two(3, 0, 0, 1, "").edge(), 100);
        Check.due("16: not alike", two(3, 1, 0, 1, "").edge(), 0);
        Check.due("16: nobody around", two(8, 1, 0, 7, "most 0 p<9").edge(), 100);
        Check.due("16: nobody", new ThirdAlike().edge(), 100);
    }

    private static void begins() {
        ThirdAlike x = new ThirdAlike();
        x.person(0, 0, 0, 4);
        x.person(0, 0, 1, 3);
        x.person(0, 0, 0, 0);
        Check.due("17: at the least wish", x.begins(), 1);
        Check.due("17: nothing changed", x.told(2), 0);
        Check.due("17: by none", halves("").begins(), -5);
        Check.due("17: nobody", new ThirdAlike().begins(), -5);
        ThirdAlike told = new ThirdAlike();
        told.person(0, 0, 0, 0);
        told.person(6, 1, 0, 4);
        told.person(0, 0, 0, 2);
        Check.due("street", Check.street(told, "most 60 p=1&h>1"), 0);
        Check.due("17: by TOO MUCH, at no wish", told.begins(), 0);
        Check.due("17: a quarter is not enough", quarterAlike(), 26);
    }

    /** A ring: 0 has one alike among four around, and leaves them for 3; who has none alike is LAZY until then. */
    private static int quarterAlike() {
        ThirdAlike x = new ThirdAlike();
        x.person(0, 0, 0, 0);
        x.person(0, 0, 0, 1);
        x.person(5, 9, 1, 2);
        x.person(0, 0, 1, 6);
        x.person(0, 0, 1, 7);
        x.person(5, 9, 0, 4);
        return x.begins();
    }

    private static void holds() {
        ThirdAlike x = new ThirdAlike();
        x.town(8, 1);
        x.person(0, 0, 0, 0);
        x.person(0, 0, 0, 1);
        x.person(0, 0, 1, 2);
        Check.due("18: the two who are alike", x.holds(), 3);
        Check.due("18: nothing changed", x.told(3) * 10 + x.told(4), 13);
        x.put(2, 7);
        Check.due("18: without the other all are CONTENT alone", x.holds(), 0);
        ThirdAlike most = two(8, 1, 0, 1, "most 50 p=0;wish 0 p<9");
        most.person(0, 0, 0, 2);
        Check.due("18: who keeps it mixed", most.holds(), 2);
        Check.due("18: nobody", new ThirdAlike().holds(), 0);
    }

    private static void before() {
        ThirdAlike x = new ThirdAlike();
        x.person(0, 0, 0, 4);
        x.person(0, 0, 1, 3);
        x.person(0, 0, 0, 0);
        Check.due("street", Check.street(x, "wish 50 s=0"), 0);
        Check.due("19: none, as the first one would go on", x.before(0), 0);
        Check.due("19: who, of none", x.before(1), -5);
        Check.due("19: from where, of none", x.before(2), -5);
        Check.due("10: 0 goes", x.move(), 1);
        Check.due("19: from 4 and from 5", x.before(0), 2);
        Check.due("19: who", x.before(1), 0);
        Check.due("19: from where", x.before(2), 4);
        Check.due("19: MOVES stay", x.told(2), 1);
        int[] none = {-1, 3, LOW, HIGH};
        for (int what : none) {
            Check.due("19: before(" + what + ")", x.before(what), ThirdAlike.NONE);
        }
        Check.due("19: nobody", new ThirdAlike().before(0), 0);
    }

    /** The second one is LAZY, and goes by odd MOVES alone. */
    private static void beforeAndLazy() {
        ThirdAlike x = two(8, 1, 0, 1, "wish 50 p=0&m=0;wish 50 p=1&h>0&m<9");
        x.person(5, 0, 1, 5);
        Check.due("19: by MOVES 0", x.before(0), beforeByModel(x, 0));
        x.move();
        Check.due("19: by MOVES 1 less", x.before(0), beforeByModel(x, 1));
    }

    /** How many come before, told by putting each one there and moving by hand; MOVES can't be put, so 0 or 1 alone. */
    private static int beforeByModel(ThirdAlike x, int moves) {
        Model m = new Model();
        m.town(8, 1);
        int[][] people = {{0, 0, 0, 0}, {0, 0, 1, 1}, {5, 0, 1, 5}};
        for (int[] p : people) {
            m.person(p[0], p[1], p[2], p[3]);
        }
        for (char sign : "wish 50 p=0&m=0;wish 50 p=1&h>0&m<9".toCharArray()) {
            m.feed(sign);
        }
        m.street();
        for (int i = 0; i < moves; i++) {
            m.move();
        }
        for (int p = 0; p < 3; p++) {
            Check.due("19: the model lives likewise", m.of(p, 3), x.of(p, 3));
        }
        return m.before(0);
    }
}
