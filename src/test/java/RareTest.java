/**
 * Promises 12, 13 and 17 at their edges: streets that a search found, as the numbers in them are seldom met. Each is
 * asked of the Model too.
 */
public final class RareTest {
    private final ThirdAlike x = new ThirdAlike();
    private final Model m = new Model();

    /** A town told as n, SHAPE, and the people, each by KIND, v, SORT and HOUSE. */
    private RareTest(String text, int n, int shape, int... people) {
        Check.due("town", x.town(n, shape), m.town(n, shape));
        for (int i = 0; i < people.length; i += 4) {
            Check.due("person", x.person(people[i], people[i + 1], people[i + 2], people[i + 3]), i / 4);
            m.person(people[i], people[i + 1], people[i + 2], people[i + 3]);
        }
        Check.due("street " + text, Check.street(x, text), 0);
        for (int i = 0; i < text.length(); i++) {
            m.feed(text.charAt(i));
        }
        m.street();
    }

    public static void main(String[] args) {
        restsBehind(126, new RareTest("wish 50 p=0&!m=7;most 0 p=1&!p=2;wish 60 p=2&m<30", 7, 1, 3, 6, 1, 3, 6, 2, 1, 5, 6, 7, 0, 4));
        restsBehind(128, new RareTest("wish 50 p=0&!p=1;most 0 p=1&!m=7;wish 60 m=7&m=7", 6, 2, 6, 9, 0, 3, 6, 5, 0, 2, 5, 3, 1, 5));
        againBehindHundred();
        begins();
        Check.end();
    }

    private void walk(int moves) {
        for (int i = 0; i < moves; i++) {
            Check.due("10: move()", x.move(), m.move());
        }
    }

    private static void restsBehind(int moves, RareTest t) {
        t.walk(moves - 102);
        for (int left = 102; left >= 98; left--) {
            Check.due("12: rest, behind " + left, t.x.rest(), left > 100 ? -5 : left);
            Check.due("12: the model's rest, behind " + left, t.m.rest(), left > 100 ? -5 : left);
            Check.due("11: run, n 100, " + left + " go until nobody moves", t.x.run(100, 0), Math.min(100, left));
            t.walk(1);
        }
    }

    private static void againBehindHundred() {
        RareTest t = new RareTest("wish 50 p=0&!m>20;most 0 p=1&!k=5;wish 60 p=2&p=2", 8, 2, 6, 6, 1, 2, 3, 3, 0, 1, 3, 4, 0, 6, 5, 9, 1, 3);
        for (int gone = 0; gone < 40; gone++) {
            int again = t.x.again();
            Check.due("13: again, by MOVES " + gone, again, t.m.again());
            if (gone == 21) {
                Check.due("13: again, behind 100, the most", again, 100);
            }
            t.walk(1);
        }
    }

    private static void beginsAt(int wish, RareTest t) {
        Check.due("17: begins, by " + wish, t.x.begins(), wish);
        Check.due("17: the model's begins, by " + wish, t.m.begins(), wish);
    }

    private static void begins() {
        beginsAt(21, new RareTest("wish 50 p=0&!f>1;most 0 p=1&!p=1;wish 60 m<9&h>2", 8, 2,
            6, 9, 0, 6, 3, 9, 0, 2, 5, 3, 1, 5, 2, 0, 0, 0, 3, 0, 0, 4, 3, 7, 1, 1));
        beginsAt(26, new RareTest("wish 50 p=0;most 0 p=1", 8, 2, 6, 9, 1, 7, 1, 6, 1, 0, 6, 2, 1, 2, 2, 3, 1, 4, 0, 3, 0, 5, 3, 7, 0, 1));
        beginsAt(34, new RareTest("wish 50 p=0&!m<9;most 0 p=1&!m>20;wish 60 m<30&m<30", 7, 0,
            2, 2, 1, 6, 6, 2, 0, 3, 5, 6, 1, 5, 1, 0, 0, 2, 1, 4, 1, 1));
        beginsAt(41, new RareTest("wish 50 p=0&!p=2;most 0 p=1&!p=2;wish 60 p=1&f>1", 7, 2,
            4, 1, 1, 6, 5, 6, 0, 4, 0, 7, 0, 2, 5, 7, 0, 0, 5, 7, 1, 5, 4, 6, 1, 1));
        beginsAt(51, new RareTest("wish 50 p=0;most 0 p=1", 8, 0, 6, 2, 1, 0, 6, 6, 0, 7, 2, 0, 1, 2, 5, 9, 1, 6, 3, 9, 1, 5));
        beginsAt(61, new RareTest("wish 50 p=0&!m>20;most 0 p=1&!p=1;wish 60 m=7&p=0", 8, 2,
            0, 2, 1, 6, 1, 6, 0, 7, 5, 8, 1, 5, 0, 8, 1, 1, 0, 1, 0, 2, 5, 7, 1, 3));
        beginsAt(67, new RareTest("wish 50 p=0&!p=2;most 0 p=1&!s=0;wish 60 p=0&k=5", 7, 0,
            5, 8, 0, 5, 4, 6, 0, 0, 5, 0, 1, 6, 3, 1, 0, 4, 2, 0, 0, 2));
        beginsAt(76, new RareTest("wish 50 p=0&!p=2;most 0 p=1&!m<30;wish 60 p=1&m>20", 8, 2,
            2, 9, 1, 7, 6, 3, 0, 6, 6, 5, 0, 2, 5, 4, 0, 3, 0, 8, 0, 5));
        beginsAt(81, new RareTest("most 42 f<5&f>1", 8, 2, 6, 5, 0, 4, 0, 7, 1, 3, 1, 5, 0, 1, 4, 1, 0, 7, 5, 4, 0, 2, 5, 9, 0, 0));
        beginsAt(81, new RareTest("most 93 f<5&f>1", 8, 2, 2, 9, 0, 1, 6, 5, 0, 0, 5, 5, 0, 2, 6, 3, 0, 3, 1, 2, 1, 7, 2, 5, 0, 4));
        // in these they never rest: a MOVE more, or one less, and the answer is another one
        beginsAt(34, new RareTest("most 43 p=2", 6, 0, 3, 0, 1, 1, 3, 6, 1, 5, 4, 7, 0, 0, 0, 6, 0, 3, 6, 7, 0, 4));
        beginsAt(51, new RareTest("most 2 p=1&!h<3;most 0 m<9&p=1", 8, 0, 0, 7, 0, 2, 1, 9, 0, 6, 4, 2, 1, 1));
    }
}
