/** Counts answers that are not as due. */
final class Check {
    static final int LOW = Integer.MIN_VALUE, HIGH = Integer.MAX_VALUE;

    private static int wrong = 0;
    private static int looked = 0;

    private Check() {
    }

    static void due(String call, long got, long want) {
        looked++;
        if (got != want) {
            wrong++;
            if (wrong <= 50) {
                System.out.println(call + " answered " + got + ", due is " + want);
            }
        }
    }

    static void holds(String what, boolean so) {
        due(what, so ? 1 : 0, 1);
    }

    /** Feeds a text, sign by sign, and makes a street of it. */
    static int street(ThirdAlike x, String text) {
        for (int i = 0; i < text.length(); i++) {
            x.feed(text.charAt(i));
        }
        return x.street();
    }

    /** A town of n HOUSES by a SHAPE, its people each told by KIND, v, SORT and HOUSE, and a STREET, if there is a text. */
    static ThirdAlike live(int n, int shape, String text, int... people) {
        ThirdAlike x = new ThirdAlike();
        due("town(" + n + ", " + shape + ")", x.town(n, shape), 8);
        for (int i = 0; i + 3 < people.length; i += 4) {
            due("person " + i / 4, x.person(people[i], people[i + 1], people[i + 2], people[i + 3]), i / 4);
        }
        if (!text.isEmpty()) {
            due("street of '" + text + "'", street(x, text), 0);
        }
        return x;
    }

    /** A BLOCK of five: 0 seeks 1, 1 flees 0 by changing with 2; behind four MOVES all live as before. */
    static ThirdAlike chase(String more) {
        return live(5, 2, "wish 50 p=0;most 0 p=1" + more, 0, 0, 0, 1, 3, 1, 0, 0, 1, 7, 1, 3);
    }

    static int wrongSoFar() {
        return wrong;
    }

    static void end() {
        if (wrong != 0 || looked == 0) {
            throw new AssertionError(wrong + " of " + looked + " answers are not as due");
        }
        System.out.println(looked + " answers are as due");
    }
}
