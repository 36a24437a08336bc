/**
 * Each number that a call may be refused with, just beyond each bound; of several that fit, the first in the order in
 * which the promise tells them. Twins shows of each that nothing changes but how many there were.
 */
public final class RefusalsTest {
    private static final int LEAST = Integer.MIN_VALUE;
    private static final int MOST = Integer.MAX_VALUE;
    private static final Twins.Past NEW = Twins.Past.NEW;
    private static final Twins.Past SOME = Twins.Past.SOME;
    private static final Twins.Past FULL = Twins.Past.FULL;
    /** SOME has as many groups and questions. */
    private static final int[] NOBODY_OF_THREE = {LEAST, -1, 3, MOST};
    private static final int[] NO_ROOM = {LEAST, -1, 7, MOST};
    private static final int[] BELOW_0 = {LEAST, -1};
    private static final int[] ABOVE_99 = {100, MOST};

    public static void main(String[] args) {
        letters();
        rooms();
        questionsAndGroups();
        sheets();
        changes();
        minutes();
        ahead();
        choices();
        apart();
        pairs();
        rows();
        lots();
        image();
        each();
        asManyAsThereMayBe();
        Due.finish();
    }

    private static void refused(Twins.Past past, int number, String call, int... arguments) {
        Twins.refused(past, number, call, arguments);
    }

    private static void letters() {
        for (int below : BELOW_0) {
            refused(SOME, -4, "letter", below);
            refused(FULL, -4, "letter", below);
        }
        for (int above : new int[] {256, MOST}) {
            refused(SOME, -6, "letter", above);
            refused(FULL, -6, "letter", above);
        }
        refused(FULL, -6, "letter", 0);
        refused(FULL, -6, "letter", ';');
        refused(FULL, -6, "letter", 255);
    }

    private static void rooms() {
        for (int no : NO_ROOM) {
            refused(SOME, -1, "door", no, 0);
            refused(SOME, -1, "door", 6, no);
            refused(SOME, -1, "door", no, no);
            refused(SOME, -1, "opens", no, 0);
            refused(SOME, -1, "opens", 6, no);
            refused(SOME, -1, "opens", no, no);
            refused(SOME, -1, "put", 0, no);
        }
        for (int room = 0; room < 7; room++) {
            refused(SOME, -1, "opens", room, room);
        }
    }

    private static void questionsAndGroups() {
        for (int no : NOBODY_OF_THREE) {
            refused(SOME, -1, "question", no, 0);
            refused(SOME, -1, "question", no, 5);
            refused(SOME, -1, "group", no, 0);
            refused(SOME, -1, "group", no, 6);
        }
        for (int other : new int[] {LEAST, -1, 5, MOST}) {
            refused(SOME, -2, "question", 2, other);
        }
        for (int other : new int[] {LEAST, -1, 6, MOST}) {
            refused(SOME, -2, "group", 2, other);
        }
        refused(NEW, -1, "question", 0, 0);
        refused(NEW, -1, "group", 0, 0);
        refused(FULL, -1, "question", 8, 0);
        refused(FULL, -1, "group", 5, 0);
    }

    private static void sheets() {
        for (int no : NOBODY_OF_THREE) {
            refused(SOME, -1, "sheet", no, 0);
            refused(SOME, -1, "sheet", 0, no);
            refused(SOME, -1, "write", no, 0, 5);
            refused(SOME, -1, "write", 0, no, 5);
            refused(SOME, -1, "write", no, no, -1);
            refused(SOME, -1, "write", no, 0, 11);
            refused(SOME, -1, "write", 0, no, 11);
        }
        for (int below : BELOW_0) {
            refused(SOME, -4, "write", 1, 0, below);
        }
        for (int above : new int[] {11, MOST}) {
            refused(SOME, -6, "write", 1, 0, above);
        }
        refused(NEW, -1, "sheet", 0, 0);
        refused(NEW, -1, "write", 0, 0, 0);
        refused(FULL, -1, "sheet", 5, 0);
        refused(FULL, -1, "sheet", 0, 8);
        refused(FULL, -1, "write", 5, 0, 10);
        refused(FULL, -1, "write", 0, 8, 10);
    }

    private static void changes() {
        for (int no : NOBODY_OF_THREE) {
            refused(SOME, -1, "put", no, 0);
            refused(SOME, -1, "put", no, 7);
            refused(SOME, -1, "start", no, 0);
            refused(SOME, -1, "start", no, -1);
            refused(SOME, -1, "start", no, 8);
        }
        for (int below : BELOW_0) {
            refused(SOME, -4, "start", 2, below);
        }
        for (int above : new int[] {8, MOST}) {
            refused(SOME, -6, "start", 2, above);
        }
        refused(NEW, -1, "put", 0, 0);
        refused(NEW, -1, "start", 0, 0);
        refused(FULL, -1, "put", 5, 0);
        refused(FULL, -1, "start", 5, 0);
    }

    private static void minutes() {
        for (int below : new int[] {LEAST, -1, 0}) {
            refused(SOME, -4, "minutes", below);
            refused(FULL, -4, "minutes", below);
        }
        for (int above : new int[] {61, MOST}) {
            refused(SOME, -6, "minutes", above);
        }
        refused(FULL, -6, "minutes", 1);
        refused(FULL, -6, "minutes", 60);
    }

    private static void ahead() {
        for (int no : NOBODY_OF_THREE) {
            refused(SOME, -1, "behind", no, 0, 0);
            refused(SOME, -1, "behind", no, -1, 4);
            refused(SOME, -1, "behind", no, 100, 4);
            refused(SOME, -1, "behind", no, 0, 4);
            refused(SOME, -1, "done", no);
            refused(SOME, -1, "answer", no, 0, 0);
            refused(SOME, -1, "answer", 0, no, 0);
            refused(SOME, -1, "answer", no, 0, 2);
            refused(SOME, -1, "answer", 0, no, -1);
        }
        for (int below : BELOW_0) {
            refused(SOME, -4, "behind", 0, below, 0);
            refused(SOME, -4, "behind", 0, below, 4);
            refused(SOME, -4, "full", below, 0);
            refused(SOME, -4, "full", below, 3);
            refused(SOME, -4, "right", below);
        }
        for (int above : ABOVE_99) {
            refused(SOME, -6, "behind", 0, above, 0);
            refused(SOME, -6, "behind", 0, above, -1);
            refused(SOME, -6, "full", above, 0);
            refused(SOME, -6, "full", above, -1);
            refused(SOME, -6, "right", above);
        }
        for (int below : BELOW_0) {
            refused(SOME, -2, "behind", 0, 99, below);
            refused(SOME, -2, "ended", below);
            refused(SOME, -2, "answer", 0, 0, below);
            refused(SOME, -2, "full", 99, below);
        }
        refused(SOME, -2, "behind", 0, 99, 4);
        refused(SOME, -2, "ended", 2);
        refused(SOME, -2, "ended", MOST);
        refused(SOME, -2, "answer", 0, 0, 2);
        refused(SOME, -2, "full", 99, 3);
        refused(NEW, -1, "behind", 0, 0, 0);
        refused(NEW, -1, "done", 0);
        refused(NEW, -2, "ended", 2);
        refused(NEW, -1, "answer", 0, 0, 0);
        refused(FULL, -1, "behind", 5, 0, 0);
        refused(FULL, -1, "done", 5);
        refused(FULL, -1, "answer", 5, 0, 0);
        refused(FULL, -1, "answer", 0, 8, 0);
    }

    private static void choices() {
        for (int no : NOBODY_OF_THREE) {
            refused(SOME, -1, "bestFirst", no, 0);
            refused(SOME, -1, "bestFirst", no, 2);
            refused(SOME, -1, "spreads", no, 0);
            refused(SOME, -1, "spreads", 0, no);
            refused(SOME, -1, "worth", no);
        }
        for (int below : BELOW_0) {
            refused(SOME, -2, "bestFirst", 0, below);
            refused(SOME, -4, "tell", below);
            refused(SOME, -4, "missing", below, 0);
            refused(SOME, -4, "missing", 0, below);
            refused(SOME, -4, "missing", 100, below);
            refused(SOME, -4, "missing", below, 10);
        }
        for (int above : ABOVE_99) {
            refused(SOME, -6, "tell", above);
            refused(SOME, -6, "missing", above, 9);
        }
        refused(SOME, -2, "bestFirst", 0, 2);
        refused(SOME, -2, "bestFirst", 0, MOST);
        refused(SOME, -6, "missing", 99, 10);
        refused(SOME, -6, "missing", 0, MOST);
        // group 1 has an answer to question 0, group 2 to question 2
        refused(SOME, -3, "spreads", 1, 0);
        refused(SOME, -3, "spreads", 2, 2);
        refused(NEW, -1, "bestFirst", 0, 0);
        refused(NEW, -1, "spreads", 0, 0);
        refused(NEW, -1, "worth", 0);
        refused(FULL, -1, "bestFirst", 5, 0);
        refused(FULL, -1, "spreads", 5, 0);
        refused(FULL, -1, "spreads", 0, 8);
        refused(FULL, -3, "spreads", 1, 1);
        refused(FULL, -1, "worth", 8);
    }

    /** FULL has five groups, so that all that is not below -1 or no such group is refused with -3. */
    private static void apart() {
        for (int below : new int[] {LEAST, -2}) {
            refused(NEW, -4, "apart", below);
            refused(SOME, -4, "apart", below);
            refused(FULL, -4, "apart", below);
        }
        refused(NEW, -1, "apart", 0);
        refused(SOME, -1, "apart", 3);
        refused(SOME, -1, "apart", MOST);
        refused(FULL, -1, "apart", 5);
        refused(FULL, -1, "apart", MOST);
        for (int i = -1; i < 5; i++) {
            refused(FULL, -3, "apart", i);
        }
    }

    private static void pairs() {
        for (int no : NOBODY_OF_THREE) {
            refused(SOME, -1, "two", no, 0);
            refused(SOME, -1, "two", 0, no);
            refused(SOME, -1, "two", no, no);
        }
        for (int group = 0; group < 3; group++) {
            refused(SOME, -1, "two", group, group);
        }
        refused(NEW, -1, "two", 0, 1);
        refused(FULL, -1, "two", 4, 5);
        refused(FULL, -1, "two", 5, 4);
    }

    private static void rows() {
        for (int below : BELOW_0) {
            refused(SOME, -4, "row", below);
            refused(FULL, -4, "row", below);
            refused(SOME, -2, "which", 0, 0, below);
        }
        for (int above : ABOVE_99) {
            refused(SOME, -6, "row", above);
            refused(FULL, -6, "row", above);
        }
        refused(FULL, -6, "row", 0);
        refused(FULL, -6, "row", 99);
        for (int no : NOBODY_OF_THREE) {
            refused(SOME, -1, "which", no, 0, 0);
            refused(SOME, -1, "which", 0, no, 0);
            refused(SOME, -1, "which", no, 0, 2);
            refused(SOME, -1, "judge", no);
        }
        refused(SOME, -2, "which", 0, 0, 2);
        // a ROW of 12, eight questions
        refused(FULL, -1, "which", 5, 0, 2);
        refused(FULL, -1, "which", 0, 8, 2);
        refused(FULL, -2, "which", 0, 0, 2);
        refused(FULL, -3, "which", 0, 0, 0);
        refused(FULL, -3, "which", 4, 7, 1);
        refused(NEW, -1, "which", 0, 0, 0);
        refused(FULL, -1, "judge", 5);
        refused(NEW, -1, "judge", 0);
    }

    private static void lots() {
        for (int below : new int[] {LEAST, -1, 0}) {
            refused(SOME, -4, "lots", below, 7, 0);
            refused(SOME, -4, "lots", below, 7, 2);
        }
        for (int above : new int[] {21, MOST}) {
            refused(SOME, -6, "lots", above, 7, 0);
            refused(SOME, -6, "lots", above, 7, -1);
        }
        for (int other : new int[] {LEAST, -1, 2, MOST}) {
            refused(SOME, -2, "lots", 1, 7, other);
            refused(SOME, -2, "lots", 20, LEAST, other);
        }
    }

    private static void image() {
        refused(NEW, -3, "on");
    }

    /** Each number a refused call more, and told of each by itself: none is counted as another. */
    private static void each() {
        GreenHorseUpstairs x = Twins.made(SOME);
        int calls = 0;
        String[] ways = {"door 7 0", "ended 2", "spreads 1 0", "right -1", "right 100"};
        int[] numbers = {-1, -2, -3, -4, -6};
        for (int i = 0; i < ways.length; i++) {
            String[] way = ways[i].split(" ");
            int[] arguments = new int[way.length - 1];
            for (int k = 0; k < arguments.length; k++) {
                arguments[k] = Integer.parseInt(way[k + 1]);
            }
            for (int times = 1; times <= 3 + i; times++) {
                Due.due(ways[i], Twins.ask(x, way[0], arguments), numbers[i]);
                Due.due(ways[i] + ": how many", x.count(10 - numbers[i]), times);
                calls++;
            }
        }
        int sum = 0;
        for (int what = 11; what <= 16; what++) {
            sum += x.count(what);
        }
        Due.due("of all numbers", sum, calls);
        Due.due("-5 is none of them", x.count(15), 0);
    }

    /** An object is used for 512 calls: the last one tells of all that were refused before it. */
    private static void asManyAsThereMayBe() {
        GreenHorseUpstairs x = Twins.made(NEW);
        for (int i = 0; i < 511; i++) {
            Due.due("minutes(0)", x.minutes(0), -4);
        }
        Due.due("count(14), call 512", x.count(14), 511);
    }
}
