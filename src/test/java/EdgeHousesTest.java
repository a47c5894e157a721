/** The boundary cases that the promises 1 to 9 name: a new object, town, neighbours, person, of, put, feed, street, told. */
public final class EdgeHousesTest {
    private static final int LOW = Check.LOW, HIGH = Check.HIGH;
    private static final int NONE = ThirdAlike.NONE, BAD = ThirdAlike.BAD, STATE = ThirdAlike.STATE, FULL = ThirdAlike.FULL;

    public static void main(String[] args) {
        newObject();
        newObjectAsked();
        townOf();
        townRefuses();
        townWhereSomebodyLives();
        neighbours();
        personOf();
        personRefuses();
        personInOrder();
        personFull();
        of();
        ofRefuses();
        put();
        putRefuses();
        feed();
        feedFull();
        streetNumbers();
        streetFault();
        streetFull();
        told();
        Check.end();
    }

    private static void newObject() {
        ThirdAlike x = new ThirdAlike();
        Check.due("1: a new object, nobody", x.count(0), 0);
        Check.due("1: a new object, no STREET", x.count(1), 0);
        Check.due("1: a new object, the BOOK is empty", x.count(2), 0);
        Check.due("1: a new object, THE TEXT is empty", x.count(3), 0);
        Check.due("1: a new object, no body ran", x.count(4), 0);
        Check.due("1: a new object, 8 HOUSES", x.told(0), 8);
        Check.due("1: a new object, RING", x.told(1), 0);
        Check.due("1: a new object, no MOVES", x.told(2), 0);
        Check.due("1: a new object, all HOUSES are free", x.told(6), 255);
        Check.due("1: a new object, no IMAGE", x.undo(), STATE);
        Check.due("1: a new object, no TRACE", x.trace(0), NONE);
        for (int tape = 0; tape < 6; tape++) {
            Check.due("1: a new object, TAPE " + tape + " holds nothing", x.item(tape, 0, 0), -11);
        }
    }

    private static void newObjectAsked() {
        ThirdAlike x = new ThirdAlike();
        Check.due("1: a new object, nobody to ask of", x.of(0, 0), -10001);
        Check.due("1: a new object, nobody moves", x.move(), -5);
        Check.due("1: a new object, rests", x.rest(), 0);
        Check.due("1: a new object, never as now again", x.again(), -5);
        Check.due("1: a new object, no LIKE PAIRS at the most mixed", x.mixed(-1), 0);
        Check.due("1: a new object, nobody has to live otherwise", x.few(), 0);
        Check.due("1: a new object, all of nobody are CONTENT by 100", x.edge(), 100);
        Check.due("1: a new object, begins by none", x.begins(), -5);
        Check.due("1: a new object, nobody holds", x.holds(), 0);
        Check.due("1: a new object, nothing before", x.before(0), 0);
        Check.due("1: a new object, all of nobody are CONTENT", x.odds(2, 0) * 10 + x.odds(2, 1), 11);
        Check.due("1: a new object, nobody lives in a quarter", x.quarter(1, 0, 0), ThirdAlike.NO);
        Check.due("1: a new object, the empty BOOK is looked at", x.looked(), -5);
        Check.due("1: a new object, none to judge", x.judge(0, 0), -5);
    }

    private static void townOf() {
        ThirdAlike x = new ThirdAlike();
        Check.due("2: town, n 3, the least", x.town(3, 0), 8);
        Check.due("2: town, SHAPE 2, the last", x.town(3, 2), 3);
        Check.due("2: town, n 8, the most", x.town(8, 1), 3);
        Check.due("2: town, as it is", x.town(8, 1), 8);
        Check.due("2: town, how many HOUSES", x.told(0), 8);
        Check.due("2: town, SHAPE", x.told(1), 1);
        Check.due("2: town, SHAPE 0, the first", x.town(4, 0), 8);
        Check.due("2: town, SHAPE 0", x.told(1), 0);
    }

    private static void townRefuses() {
        ThirdAlike x = Check.live(6, 1, "");
        Check.due("2: town, n 2, one below the least", x.town(2, 0), BAD);
        Check.due("2: town, n 9, one above the most", x.town(9, 0), BAD);
        Check.due("2: town, n 0", x.town(0, 0), BAD);
        Check.due("2: town, n -3", x.town(-3, 0), BAD);
        Check.due("2: town, the least n of all", x.town(LOW, 0), BAD);
        Check.due("2: town, the greatest n of all", x.town(HIGH, 0), BAD);
        Check.due("2: town, SHAPE -1", x.town(7, -1), NONE);
        Check.due("2: town, SHAPE 3", x.town(7, 3), NONE);
        Check.due("2: town, the least SHAPE of all", x.town(7, LOW), NONE);
        Check.due("2: town, the greatest SHAPE of all", x.town(7, HIGH), NONE);
        Check.due("2: town, SHAPE is named ahead of n", x.town(2, 3), NONE);
        Check.due("2: town, refused: the HOUSES stay", x.told(0), 6);
        Check.due("2: town, refused: the SHAPE stays", x.told(1), 1);
    }

    private static void townWhereSomebodyLives() {
        ThirdAlike x = Check.live(8, 0, "", 0, 0, 0, 4, 0, 0, 0, 1);
        Check.due("2: town, somebody lives in 4 of 4, which would not be", x.town(4, 0), STATE);
        Check.due("2: town, somebody lives in 4 of 3", x.town(3, 0), STATE);
        Check.due("2: town, n is named ahead of who lives there", x.town(2, 0), BAD);
        Check.due("2: town, SHAPE is named ahead of who lives there", x.town(4, 3), NONE);
        Check.due("2: town, refused: the HOUSES stay", x.told(0), 8);
        Check.due("2: town, somebody lives in 4 of 5, which would be", x.town(5, 2), 8);
        Check.due("2: town, all live where they did", x.of(0, 3) * 10 + x.of(1, 3), 41);
        ThirdAlike last = Check.live(8, 0, "", 0, 0, 0, 0, 0, 0, 0, 7);
        Check.due("2: town, the last one lives in 7 of 7", last.town(7, 0), STATE);
        ThirdAlike six = Check.live(8, 0, "", 0, 0, 0, 5, 0, 0, 0, 4, 0, 0, 0, 3, 0, 0, 0, 2, 0, 0, 0, 1, 0, 0, 0, 0);
        Check.due("2: town, the first of six lives in 5 of 5", six.town(5, 0), STATE);
        Check.due("2: town, all six live in 0 .. 5 of 6", six.town(6, 0), 8);
        ThirdAlike gone = new ThirdAlike();
        gone.image();
        gone.person(0, 0, 0, 7);
        gone.undo();
        Check.due("2: town, who lived in 7 is gone", gone.town(7, 0), 8);
    }

    private static void neighbours() {
        ThirdAlike x = Check.live(5, 1, "");
        Check.due("3: neighbours, of HOUSE 0, the first", x.neighbours(0), 0b00110);
        Check.due("3: neighbours, of HOUSE 4, the last of five", x.neighbours(4), 0b01100);
        Check.due("3: neighbours, of HOUSE 5 of five", x.neighbours(5), NONE);
        Check.due("3: neighbours, of HOUSE -1", x.neighbours(-1), NONE);
        Check.due("3: neighbours, of the least number of all", x.neighbours(LOW), NONE);
        Check.due("3: neighbours, of the greatest number of all", x.neighbours(HIGH), NONE);
        x.town(8, 1);
        Check.due("3: neighbours, of HOUSE 7, the last of eight", x.neighbours(7), 0b01100000);
        Check.due("3: neighbours, of HOUSE 8 of eight", x.neighbours(8), NONE);
        x.person(0, 0, 0, 1);
        Check.due("3: neighbours, who lives there does not matter", x.neighbours(0), 0b00000110);
    }

    private static void personOf() {
        ThirdAlike x = Check.live(7, 0, "");
        Check.due("4: person, the first: KIND 0, v 0, SORT 0, HOUSE 0", x.person(0, 0, 0, 0), 0);
        Check.due("4: person, KIND 6, v 9, SORT 2, HOUSE 6, each the last", x.person(6, 9, 2, 6), 1);
        Check.due("4: person, KIND 6", x.of(1, 0), 6);
        Check.due("4: person, v 9", x.of(1, 1), 9);
        Check.due("4: person, SORT 2", x.of(1, 2), 2);
        Check.due("4: person, HOUSE 6", x.of(1, 3), 6);
        for (int p = 2; p < 6; p++) {
            Check.due("4: person, as they come: " + p, x.person(0, 0, 0, p), p);
        }
        Check.due("4: person, six, the most", x.count(0), 6);
    }

    private static void personRefuses() {
        ThirdAlike x = Check.live(7, 0, "");
        Check.due("4: person, KIND -1", x.person(-1, 0, 0, 0), NONE);
        Check.due("4: person, KIND 7", x.person(7, 0, 0, 0), NONE);
        Check.due("4: person, the least KIND of all", x.person(LOW, 0, 0, 0), NONE);
        Check.due("4: person, the greatest KIND of all", x.person(HIGH, 0, 0, 0), NONE);
        Check.due("4: person, SORT -1", x.person(0, 0, -1, 0), NONE);
        Check.due("4: person, SORT 3", x.person(0, 0, 3, 0), NONE);
        Check.due("4: person, the greatest SORT of all", x.person(0, 0, HIGH, 0), NONE);
        Check.due("4: person, HOUSE -1", x.person(0, 0, 0, -1), NONE);
        Check.due("4: person, HOUSE 7 of seven", x.person(0, 0, 0, 7), NONE);
        Check.due("4: person, the least HOUSE of all", x.person(0, 0, 0, LOW), NONE);
        Check.due("4: person, the greatest HOUSE of all", x.person(0, 0, 0, HIGH), NONE);
        Check.due("4: person, v -1", x.person(0, -1, 0, 0), BAD);
        Check.due("4: person, v 10", x.person(0, 10, 0, 0), BAD);
        Check.due("4: person, the least v of all", x.person(0, LOW, 0, 0), BAD);
        Check.due("4: person, the greatest v of all", x.person(0, HIGH, 0, 0), BAD);
        Check.due("4: person, refused: nobody came", x.count(0), 0);
        Check.due("4: person, refused: all HOUSES are free", x.told(6), 127);
    }

    private static void personInOrder() {
        ThirdAlike x = Check.live(7, 0, "", 0, 0, 0, 3);
        Check.due("4: person, somebody lives there", x.person(0, 0, 0, 3), STATE);
        Check.due("4: person, v is named ahead of who lives there", x.person(0, 10, 0, 3), BAD);
        Check.due("4: person, KIND is named ahead of v and who lives there", x.person(7, 10, 0, 3), NONE);
        Check.due("4: person, SORT is named ahead of v and who lives there", x.person(0, 10, 3, 3), NONE);
        Check.due("4: person, HOUSE is named ahead of v", x.person(0, 10, 0, 7), NONE);
        Check.due("4: person, refused: nobody came", x.count(0), 1);
    }

    private static void personFull() {
        ThirdAlike x = Check.live(7, 0, "", 0, 0, 0, 0, 0, 0, 0, 1, 0, 0, 0, 2, 0, 0, 0, 3, 0, 0, 0, 4);
        Check.due("4: person, the sixth", x.person(0, 0, 0, 5), 5);
        Check.due("4: person, a seventh", x.person(0, 0, 0, 6), FULL);
        Check.due("4: person, who lives there is named ahead of 6", x.person(0, 0, 0, 5), STATE);
        Check.due("4: person, v is named ahead of 6", x.person(0, 10, 0, 6), BAD);
        Check.due("4: person, HOUSE is named ahead of 6", x.person(0, 0, 0, 7), NONE);
        Check.due("4: person, refused: six stay", x.count(0), 6);
        Check.due("4: person, refused: 6 is free", x.told(6), 64);
        ThirdAlike six = Check.live(3, 0, "", 0, 0, 0, 0, 0, 0, 0, 1, 0, 0, 0, 2);
        Check.due("4: person, no free HOUSE", six.person(0, 0, 0, 2), STATE);
    }

    private static void of() {
        ThirdAlike x = Check.live(8, 1, "wish 40 p=1;most 90 p=1;dear 7 p=1", 0, 0, 0, 0, 6, 9, 2, 1);
        int[] due = {6, 9, 2, 1, 40, 90, 7, 0, 3};
        String[] what = {"KIND", "v", "SORT", "HOUSE", "WISH", "TOO MUCH", "COST", "not CONTENT", "GOES TO"};
        for (int i = 0; i < due.length; i++) {
            Check.due("5: of, " + i + " " + what[i], x.of(1, i), due[i]);
        }
        Check.due("5: of, 7 CONTENT", x.of(0, 7), 1);
        Check.due("5: of, 8 GOES TO: -5 of who is CONTENT", x.of(0, 8), -5);
        ThirdAlike nowhere = Check.live(3, 0, "", 0, 0, 0, 0, 0, 0, 1, 1);
        Check.due("5: of, 7 not CONTENT, and nowhere to go", nowhere.of(0, 7), 0);
        Check.due("5: of, 8 GOES TO: -5, nowhere", nowhere.of(0, 8), -5);
        ThirdAlike told = Check.live(8, 1, "", 6, 5, 0, 0);
        Check.due("5: of, 8 GOES TO: -5 of TOLD who is CONTENT", told.of(0, 8), -5);
    }

    private static void ofRefuses() {
        ThirdAlike x = Check.live(8, 0, "", 0, 0, 0, 0, 0, 0, 0, 1);
        Check.due("5: of, what 9", x.of(0, 9), -10001);
        Check.due("5: of, what -1", x.of(0, -1), -10001);
        Check.due("5: of, the least what of all", x.of(0, LOW), -10001);
        Check.due("5: of, the greatest what of all", x.of(0, HIGH), -10001);
        Check.due("5: of, the last one, 1 of two", x.of(1, 3), 1);
        Check.due("5: of, no such one, 2 of two", x.of(2, 3), -10001);
        Check.due("5: of, no such one, -1", x.of(-1, 3), -10001);
        Check.due("5: of, the least number of all", x.of(LOW, 3), -10001);
        Check.due("5: of, the greatest number of all", x.of(HIGH, 3), -10001);
        for (int what = 0; what <= 8; what++) {
            Check.due("5: of, nobody there, what " + what, new ThirdAlike().of(0, what), -10001);
        }
    }

    private static void put() {
        ThirdAlike x = Check.live(7, 0, "", 0, 0, 0, 3, 0, 0, 1, 2);
        Check.due("6: put, to HOUSE 0, the first: where they did", x.put(0, 0), 3);
        Check.due("6: put, to HOUSE 6, the last of seven: where they did", x.put(0, 6), 0);
        Check.due("6: put, they live there", x.of(0, 3), 6);
        Check.due("6: put, the others live where they did", x.of(1, 3), 2);
        Check.due("6: put, by hand is no MOVE", x.told(2), 0);
        Check.due("6: put, where they left is free", x.put(1, 3), 2);
    }

    private static void putRefuses() {
        ThirdAlike x = Check.live(7, 0, "", 0, 0, 0, 3, 0, 0, 1, 2);
        Check.due("6: put, somebody lives there", x.put(0, 2), STATE);
        Check.due("6: put, somebody lives there: themselves", x.put(0, 3), STATE);
        Check.due("6: put, HOUSE -1", x.put(0, -1), NONE);
        Check.due("6: put, HOUSE 7 of seven", x.put(0, 7), NONE);
        Check.due("6: put, the greatest HOUSE of all", x.put(0, HIGH), NONE);
        Check.due("6: put, the least HOUSE of all", x.put(0, LOW), NONE);
        Check.due("6: put, no such one, 2 of two", x.put(2, 0), NONE);
        Check.due("6: put, no such one, -1", x.put(-1, 0), NONE);
        Check.due("6: put, no such one is named ahead of who lives there", x.put(2, 2), NONE);
        Check.due("6: put, nobody at all", new ThirdAlike().put(0, 0), NONE);
        Check.due("6: put, refused: all live where they did", x.of(0, 3) * 10 + x.of(1, 3), 32);
    }

    private static void feed() {
        ThirdAlike x = new ThirdAlike();
        Check.due("7: feed, sign 0, the least", x.feed(0), 1);
        Check.due("7: feed, sign 127, the greatest", x.feed(127), 2);
        Check.due("7: feed, sign -1", x.feed(-1), BAD);
        Check.due("7: feed, sign 128", x.feed(128), BAD);
        Check.due("7: feed, sign 256, whose lowest bits are 0", x.feed(256), BAD);
        Check.due("7: feed, the least of all", x.feed(LOW), BAD);
        Check.due("7: feed, the greatest of all", x.feed(HIGH), BAD);
        Check.due("7: feed, refused: THE TEXT stays", x.count(3), 2);
        Check.due("7: feed, behind a STREET THE TEXT is empty", x.street(), -10);
        Check.due("7: feed, the first again", x.feed('w'), 1);
    }

    private static void feedFull() {
        ThirdAlike x = new ThirdAlike();
        for (int i = 1; i <= 99; i++) {
            x.feed(i == 1 ? 'x' : 'w');
        }
        Check.due("7: feed, the 100th", x.feed('w'), 100);
        Check.due("7: feed, a 101st", x.feed('w'), FULL);
        Check.due("7: feed, the sign is named ahead of 100", x.feed(128), BAD);
        Check.due("7: feed, refused: THE TEXT stays", x.count(3), 100);
        Check.due("7: feed, 100 are a STREET's text, too", x.street(), -10);
        Check.due("7: feed, THE TEXT is empty then", x.count(3), 0);
    }

    private static void streetNumbers() {
        ThirdAlike x = Check.live(8, 0, "", 0, 0, 0, 0);
        for (int i = 0; i < 6; i++) {
            Check.due("8: street, number " + i, Check.street(x, "wish 5" + i + " p=0"), i);
            Check.due("8: street, THE TEXT is empty then", x.count(3), 0);
            Check.due("8: street, it holds", x.of(0, 4), 50 + i);
            Check.due("8: street, how many there are", x.count(1), i + 1);
        }
    }

    private static void streetFault() {
        ThirdAlike x = Check.live(8, 0, "wish 7 p=0", 0, 0, 0, 0);
        Check.due("8: street, -10 less the FAULT at 0, the first byte", Check.street(x, "x"), -10);
        Check.due("8: street, -10 less the FAULT at 0, THE TEXT is empty", x.street(), -10);
        Check.due("8: street, -10 less the FAULT at the last byte", Check.street(x, "wish 8 p=x"), -19);
        Check.due("8: street, -10 less the FAULT behind the last byte", Check.street(x, "wish 8 p="), -19);
        Check.due("8: street, with a FAULT in the second CLAUSE the first does not hold", Check.street(x, "wish 8 p=0;wash"), -22);
        Check.due("8: street, with a FAULT the one that held holds", x.of(0, 4), 7);
        Check.due("8: street, with a FAULT there is none more", x.count(1), 1);
        Check.due("8: street, with a FAULT THE TEXT is empty then", x.count(3), 0);
        Check.due("8: street, with a FAULT no number is used up", Check.street(x, "dear 9 p=01"), 1);
        Check.due("8: street, behind a FAULT with its own CLAUSES alone: WISH", x.of(0, 4), 33);
        Check.due("8: street, behind a FAULT with its own CLAUSES alone: COST", x.of(0, 6), 0);
        Check.due("8: street, behind a longer one", Check.street(x, "dear 9 p=0"), 2);
        Check.due("8: street, behind a longer one nothing of it is left", x.of(0, 6), 9);
        Check.due("8: street, with a FAULT in the second CLAUSE", Check.street(x, "dear 8 p=0;dare"), -22);
        Check.due("8: street, behind that", Check.street(x, "dear 7 p=0"), 3);
        Check.due("8: street, behind that the faulty one's first CLAUSE is not left", x.of(0, 6), 7);
        ThirdAlike none = Check.live(8, 0, "", 0, 0, 0, 0);
        Check.due("8: street, the first has a FAULT", Check.street(none, "wish 8 p=0;"), -21);
        Check.due("8: street, the first has a FAULT: there are no CLAUSES", none.of(0, 4), 33);
    }

    private static void streetFull() {
        ThirdAlike x = Check.live(8, 0, "", 0, 0, 0, 0);
        for (int i = 0; i < 6; i++) {
            Check.street(x, "wish " + i + " p=0");
        }
        Check.due("8: street, a seventh", Check.street(x, "wish 9 p=0"), FULL);
        Check.due("8: street, there are 6: THE TEXT stays", x.count(3), 10);
        Check.due("8: street, there are 6: the sixth holds", x.of(0, 4), 5);
        Check.due("8: street, there are 6: no more", x.count(1), 6);
        Check.due("8: street, 6 are named ahead of a FAULT", Check.street(x, ";"), FULL);
        Check.due("8: street, 6 are named ahead of a FAULT: THE TEXT stays", x.count(3), 11);
    }

    private static void told() {
        ThirdAlike x = Check.live(5, 2, "wish 50 p=1&h=4", 0, 0, 0, 0, 0, 0, 1, 4, 0, 0, 0, 1);
        int[] due = {5, 2, 0, 1, 3, 0b101, 0b01100};
        String[] what = {"how many HOUSES", "SHAPE", "MOVES", "LIKE PAIRS", "ALL PAIRS", "HAPPY", "free HOUSES"};
        for (int i = 0; i < due.length; i++) {
            Check.due("9: told, " + i + " " + what[i], x.told(i), due[i]);
        }
        Check.due("9: told, what 7", x.told(7), NONE);
        Check.due("9: told, what -1", x.told(-1), NONE);
        Check.due("9: told, the least what of all", x.told(LOW), NONE);
        Check.due("9: told, the greatest what of all", x.told(HIGH), NONE);
        ThirdAlike full = Check.live(3, 0, "", 0, 0, 0, 0, 0, 0, 0, 1, 0, 0, 0, 2);
        Check.due("9: told, 6 no free HOUSES", full.told(6), 0);
        full.town(4, 0);
        Check.due("9: told, 6 a free HOUSE, the last", full.told(6), 8);
    }
}
