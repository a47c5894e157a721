/** Counts answers that are not as due. */
final class Check {
    private static int wrong = 0;
    private static int looked = 0;

    private Check() {
    }

    static void due(String call, long got, long want) {
        looked++;
        if (got != want) {
            wrong++;
            if (wrong <= 50) {
                System.out.println(call + " answered " + got + ", due is " + want);
            }
        }
    }

    static void holds(String what, boolean so) {
        due(what, so ? 1 : 0, 1);
    }

    /** Feeds a text, sign by sign, and makes a street of it. */
    static int street(ThirdAlike x, String text) {
        for (int i = 0; i < text.length(); i++) {
            x.feed(text.charAt(i));
        }
        return x.street();
    }

    /** A BLOCK of five: 0 seeks 1, 1 flees 0 by changing with 2; behind four MOVES all live as before. */
    static ThirdAlike chase(String more) {
        ThirdAlike x = new ThirdAlike();
        x.town(5, 2);
        x.person(0, 0, 0, 1);
        x.person(3, 1, 0, 0);
        x.person(1, 7, 1, 3);
        due("the chase's street", street(x, "wish 50 p=0;most 0 p=1" + more), 0);
        return x;
    }

    static int wrongSoFar() {
        return wrong;
    }

    static void end() {
        System.out.println(wrong == 0 ? looked + " answers are as due" : wrong + " of " + looked + " answers are not as due");
        if (wrong != 0 || looked == 0) {
            System.exit(1);
        }
    }
}
