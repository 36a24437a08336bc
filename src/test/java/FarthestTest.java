/**
 * The bounds of what is thought: MINUTES 0 and 99, a way that takes 99 and one that takes 100 and so never ends, none
 * at all, all that there may be. Promises 13 to 35; those that look ahead have a museum that ends just in time and one
 * that ends just too late.
 */
public final class FarthestTest {
    private static final String CHAIN = "d01;d12;d23;d34;d45;d56;";

    public static void main(String[] args) {
        behindAndRight();
        done();
        ended();
        answer();
        full();
        bestFirst();
        truestFirst();
        apart();
        apartByGroups();
        leave();
        tell();
        spreads();
        missing();
        worth();
        two();
        newDoor();
        which();
        judge();
        lots();
        image();
        counts();
        fiveAndEight();
        Due.finish();
    }

    /** The rooms in a chain, in each that is told a DRAW with the TRUE answer 1; all take so many MINUTES together. */
    private static GreenHorseUpstairs draws(String rooms, int minutes) {
        GreenHorseUpstairs x = Due.told(CHAIN);
        int each = minutes / rooms.length();
        int more = minutes % rooms.length();
        StringBuilder text = new StringBuilder();
        for (int i = 0; i < rooms.length(); i++) {
            text.append("qd").append(each - 1 + (i < more ? 1 : 0)).append(rooms.charAt(i)).append("1;");
        }
        Due.due("draws", Due.tell(x, text.toString()), rooms.length());
        int takes = 0;
        for (int i = 0; i < rooms.length(); i++) {
            takes += x.question(i, 4);
        }
        Due.due("MINUTES of all draws", takes, minutes);
        return x;
    }

    /**
     * To and fro between the ends of the chain, a group in its middle: with each FIRST 3 MINUTES to the first room and
     * 42 from room to room, so that it is DONE behind as many as told.
     */
    private static GreenHorseUpstairs toAndFro(int done) {
        GreenHorseUpstairs x = draws("06060606", done - 45);
        Due.due("a group in the middle", Due.tell(x, "g990;a03;"), 2);
        return x;
    }

    private static void behindAndRight() {
        GreenHorseUpstairs x = toAndFro(99);
        Due.due("behind(0, 0, 0)", x.behind(0, 0, 0), 3);
        Due.due("behind(0, 1, 0)", x.behind(0, 1, 0), 2);
        Due.due("behind(0, 99, 0)", x.behind(0, 99, 0), 6);
        Due.due("behind(0, 0, 1)", x.behind(0, 0, 1), 0);
        Due.due("behind(0, 98, 1)", x.behind(0, 98, 1), 7);
        Due.due("behind(0, 99, 1)", x.behind(0, 99, 1), 8);
        Due.due("behind(0, 98, 2)", x.behind(0, 98, 2), 7);
        Due.due("behind(0, 99, 2)", x.behind(0, 99, 2), 8);
        Due.due("right(0)", x.right(0), 0);
        Due.due("right(98)", x.right(98), 7);
        Due.due("right(99)", x.right(99), 8);
        GreenHorseUpstairs late = toAndFro(100);
        Due.due("late: behind(0, 99, 1)", late.behind(0, 99, 1), 7);
        Due.due("late: right(99)", late.right(99), 7);
        Due.due("nobody's", new GreenHorseUpstairs().right(99), 0);
        // COPIED with the last of the minutes, and of all questions
        GreenHorseUpstairs copy = Due.told("ql901;ql901;ql901;ql901;ql901;ql901;ql901;ql901;g010;g020;");
        for (int question = 0; question < 8; question++) {
            copy.write(1, question, 5);
        }
        for (int n = 0; n <= 9; n++) {
            Due.due("behind(0, " + n + ", 3)", copy.behind(0, n, 3), Math.min(n, 8));
        }
        Due.due("behind(0, 99, 3)", copy.behind(0, 99, 3), 8);
        Due.due("behind(1, 99, 3)", copy.behind(1, 99, 3), 0);
    }

    private static void done() {
        Due.due("98", toAndFro(98).done(0), 98);
        Due.due("99", toAndFro(99).done(0), 99);
        Due.due("100", toAndFro(100).done(0), -9);
        GreenHorseUpstairs x = toAndFro(100);
        x.minutes(1);
        Due.due("99 behind a minute", x.done(0), 99);
        x.minutes(60);
        x.minutes(38);
        Due.due("1", x.done(0), 1);
        x.minutes(1);
        Due.due("0", x.done(0), 0);
        Due.due("no question", Due.told("g000;").done(0), 0);
        Due.due("no way", Due.told("ql061;g000;").done(0), -9);
    }

    private static void ended() {
        GreenHorseUpstairs x = toAndFro(99);
        Due.due("ended(0) at 99", x.ended(0), 0);
        Due.due("ended(1) at 99", x.ended(1), 99);
        Due.due("one farther away", Due.tell(x, "g990;a12;g990;a23;"), 4);
        Due.due("the nearest is first, of several the least", x.ended(0), 1);
        x.put(1, 3);
        Due.due("of three the least", x.ended(0), 0);
        Due.due("all at 99", x.ended(1), 99);
        x.put(2, 4);
        Due.due("one never", x.ended(1), -9);
        Due.due("the first none the less", x.ended(0), 0);
        GreenHorseUpstairs late = toAndFro(100);
        Due.due("ended(0) at 100", late.ended(0), -9);
        Due.due("ended(1) at 100", late.ended(1), -9);
        GreenHorseUpstairs nobody = new GreenHorseUpstairs();
        Due.due("nobody is first", nobody.ended(0), -9);
        Due.due("nobody lacks", nobody.ended(1), 0);
        GreenHorseUpstairs there = Due.told("g000;g000;");
        Due.due("without questions the least", there.ended(0), 0);
        Due.due("without questions", there.ended(1), 0);
    }

    private static void answer() {
        GreenHorseUpstairs x = toAndFro(99);
        Due.due("at 99", x.answer(0, 7, 0), 1);
        Due.due("at 99, copied from none", x.answer(0, 7, 1), -9);
        GreenHorseUpstairs late = toAndFro(100);
        Due.due("at 100", late.answer(0, 7, 0), -9);
        Due.due("at 100, before it", late.answer(0, 6, 0), 1);
        Due.due("what is there", Due.told("qm001;g090;w000;").answer(0, 0, 0), 0);
        // from the fifth group, and from the first one
        Due.due("from 4", Due.told("ql901;g010;g000;g000;g000;g000;w407;").answer(0, 0, 1), 4);
        Due.due("from 0", Due.told("ql901;g010;g000;g000;g000;g000;w007;").answer(4, 0, 1), 0);
        Due.due("copied before", Due.told("ql901;g010;g000;w007;m01;").answer(1, 0, 1), -9);
    }

    /** Behind 24 minutes of going and 70 of drawing it is 5 doors to the last room, in which another group is. */
    private static void full() {
        GreenHorseUpstairs x = draws("0404040", 70);
        Due.due("the last room", Due.tell(x, "ql051;g990;g990;a05;"), 4);
        for (int question = 0; question < 8; question++) {
            x.write(0, question, 1);
        }
        Due.due("full(98, 0)", x.full(98, 0), 1);
        Due.due("full(98, 1)", x.full(98, 1), 0);
        Due.due("full(98, 2)", x.full(98, 2), 0);
        Due.due("full(99, 0)", x.full(99, 0), 2);
        Due.due("full(99, 1)", x.full(99, 1), 99);
        Due.due("full(99, 2)", x.full(99, 2), 5);
        Due.due("missing(98, 4)", x.missing(98, 4), 1);
        Due.due("missing(99, 4)", x.missing(99, 4), 3);
        x.put(1, 1);
        Due.due("full(99, 0), a minute late", x.full(99, 0), 1);
        Due.due("missing(99, 4), a minute late", x.missing(99, 4), 1);
        GreenHorseUpstairs all = Due.told("g000;g000;g000;g000;g000;a06;a16;a26;a36;a46;");
        Due.due("all in the last room", all.full(0, 0), 5);
        Due.due("behind none", all.full(0, 1), 0);
        Due.due("the last room", all.full(0, 2), 6);
        all.put(4, 5);
        all.put(3, 5);
        all.put(2, 0);
        Due.due("of two and two and one", all.full(0, 2), 5);
        GreenHorseUpstairs twice = Due.told("d01;d12;d23;ql031;ql001;g990;g990;a02;a12;");
        Due.due("in room 2 first, in 0 later", twice.full(99, 2), 2);
        Due.due("behind none", twice.full(99, 1), 0);
        twice.put(1, 1);
        Due.due("together behind 2", twice.full(99, 1), 2);
        Due.due("in room 3 first, in 0 later", twice.full(99, 2), 3);
        GreenHorseUpstairs nobody = new GreenHorseUpstairs();
        Due.due("nobody", nobody.full(0, 0), 0);
        Due.due("nobody, behind", nobody.full(99, 1), 0);
        Due.due("nobody, where", nobody.full(99, 2), 0);
    }

    private static void bestFirst() {
        Due.due("99 with each", toAndFro(99).bestFirst(0, 0), 0);
        Due.due("100 with each", toAndFro(100).bestFirst(0, 0), -9);
        GreenHorseUpstairs x = toAndFro(101);
        x.put(0, 4);
        Due.due("102 or 100", x.bestFirst(0, 0), -9);
        x.put(0, 5);
        Due.due("103 or 99", x.bestFirst(0, 0), 1);
        // the last question alone is on the way to the others
        GreenHorseUpstairs last = draws("66666660", 8);
        Due.due("a group", Due.tell(last, "g990;"), 1);
        Due.due("7", last.bestFirst(0, 0), 7);
        last.start(0, 7);
        Due.due("7 as now", last.bestFirst(0, 0), 7);
        GreenHorseUpstairs none = Due.told("g007;");
        Due.due("without questions", none.bestFirst(0, 0), 0);
        Due.due("without questions, truest", none.bestFirst(0, 1), 0);
    }

    private static void truestFirst() {
        // with 0 behind 99 or 100, with 1 eleven sooner
        GreenHorseUpstairs x = draws("60655555", 80);
        Due.due("a group", Due.tell(x, "g990;"), 1);
        Due.due("at 99", x.done(0), 99);
        Due.due("eight with 0", x.bestFirst(0, 1), 0);
        GreenHorseUpstairs late = draws("60655554", 80);
        Due.due("a group", Due.tell(late, "g990;"), 1);
        Due.due("at 100", late.done(0), -9);
        Due.due("seven with 0", late.bestFirst(0, 1), 1);
        // the eighth alone leads round to what can be answered
        GreenHorseUpstairs seventh = Due.told(CHAIN + "d56;ql061;ql061;ql061;ql061;ql061;ql061;ql061;ql001;");
        Due.due("a group", Due.tell(seventh, "g997;"), 1);
        Due.due("7 alone", seventh.bestFirst(0, 1), 7);
        Due.due("none right with any", Due.told("ql061;g990;").bestFirst(0, 1), 0);
    }

    private static void apart() {
        GreenHorseUpstairs x = Due.told("g000;g000;g000;a01;a12;");
        Due.due("of three, each alone", x.apart(-1), 1);
        Due.due("apart(2)", x.apart(2), 0);
        Due.due("apart(3)", x.apart(3), -1);
        Due.due("a fourth", Due.tell(x, "g000;"), 1);
        Due.due("apart(-1) of four", x.apart(-1), -3);
        Due.due("apart(0) of four", x.apart(0), -3);
        Due.due("apart(3) of four", x.apart(3), -3);
        Due.due("apart(4) of four", x.apart(4), -1);
        Due.due("apart(-2) of four", x.apart(-2), -4);
        GreenHorseUpstairs one = Due.told("g005;");
        Due.due("apart(-1) of one", one.apart(-1), 1);
        Due.due("apart(0) of one", one.apart(0), 0);
        Due.due("apart(1) of one", one.apart(1), -1);
        GreenHorseUpstairs nobody = new GreenHorseUpstairs();
        Due.due("apart(-1) of nobody", nobody.apart(-1), 0);
        Due.due("apart(0) of nobody", nobody.apart(0), -1);
    }

    /** As they begin now they meet; they need not, whatever was thought of before. */
    private static void apartByGroups() {
        GreenHorseUpstairs x = Due.told("d12;ql023;ql013;g900;g900;a01;a12;");
        Due.due("now they meet", x.full(1, 0), 2);
        Due.due("together at last, in thought", x.full(99, 0), 2);
        Due.due("apart(-1)", x.apart(-1), 1);
        Due.due("apart(0)", x.apart(0), 0);
        Due.due("apart(1)", x.apart(1), 1);
        x.start(1, 1);
        Due.due("begun so", x.full(30, 0), 1);
        Due.due("who are together now", Due.told("ql061;g000;g000;").apart(-1), 2);
    }

    /** Of to and fro a question within the way spares 12 minutes of going and its own; 1 is the first with the most. */
    private static void leave() {
        GreenHorseUpstairs x = toAndFro(121);
        Due.due("the one takes 10", x.question(1, 4), 10);
        Due.due("99 without it", x.leave(), 1);
        Due.due("100 without each", toAndFro(122).leave(), -9);
        Due.due("none", Due.told("g000;").leave(), -9);
        Due.due("nothing at all", new GreenHorseUpstairs().leave(), -9);
        Due.due("nobody is done with each", Due.told("ql061;ql061;").leave(), 0);
        Due.due("the last alone", Due.told("ql001;ql001;ql001;ql001;ql001;ql001;ql001;ql061;g000;").leave(), 7);
    }

    /** The last answer is false, but from a guard, with which it takes 3 minutes: at 99, or too late. */
    private static void tell() {
        GreenHorseUpstairs x = draws("0606060", 51);
        Due.due("the last", Due.tell(x, "ql961;g820;a03;"), 3);
        Due.due("tell(98)", x.tell(98), -9);
        Due.due("tell(99)", x.tell(99), 7);
        GreenHorseUpstairs late = draws("0606060", 52);
        Due.due("the last", Due.tell(late, "ql961;g820;a03;"), 3);
        Due.due("none is of use", late.tell(99), -9);
        Due.due("false at 98", late.behind(0, 98, 1), 8);
        Due.due("tell(0)", Due.told("ql901;g000;").tell(0), -9);
        Due.due("tell(2)", Due.told("ql901;g000;").tell(2), -9);
        Due.due("tell(3)", Due.told("ql901;g000;").tell(3), 0);
        Due.due("no more than now", Due.told("ql901;g000;w001;").tell(99), -9);
        Due.due("as many as now", Due.told("ql001;g000;").tell(99), -9);
        Due.due("of nobody", Due.told("ql901;").tell(99), -9);
        Due.due("of none", Due.told("g000;").tell(99), -9);
    }

    private static GreenHorseUpstairs copiedLast(int minutes) {
        GreenHorseUpstairs x = draws("0606060", minutes);
        Due.due("the last", Due.tell(x, "ql961;g990;a06;g850;a13;"), 5);
        for (int question = 0; question < 7; question++) {
            x.write(0, question, 1);
        }
        return x;
    }

    /** Group 1 comes to the last question, where group 0 is, with 98 minutes gone, or with 99. */
    private static void spreads() {
        GreenHorseUpstairs x = copiedLast(53);
        Due.due("done", x.done(1), 99);
        Due.due("to one with the last minute", x.spreads(0, 7), 2);
        GreenHorseUpstairs late = copiedLast(54);
        Due.due("to none", late.spreads(0, 7), 1);
        Due.due("it alone, nobody there", Due.told("ql901;g000;").spreads(0, 0), 1);
        Due.due("to all five", Due.told("ql909;g000;g010;g010;g010;g010;").spreads(0, 0), 5);
        GreenHorseUpstairs wiped = Due.told("ql901;g000;w003;");
        Due.due("it has one", wiped.spreads(0, 0), -3);
        wiped.write(0, 0, 10);
        Due.due("it has none any more", wiped.spreads(0, 0), 1);
    }

    private static void missing() {
        GreenHorseUpstairs x = Due.told(CHAIN + "g000;g000;g000;g000;g000;a11;a22;a35;a46;");
        int[] due = {30, 28, 24, 24, 24, 16, 0, 0, 0, 0};
        for (int v = 0; v <= 9; v++) {
            Due.due("missing(0, " + v + ")", x.missing(0, v), due[v]);
            Due.due("missing(99, " + v + ")", x.missing(99, v), due[v]);
        }
        x.opens(1, 2);
        Due.due("no way", x.missing(0, 9), 28);
        x.opens(0, 1);
        Due.due("no way but for who is there", x.missing(99, 9), 30);
        x.put(0, 3);
        Due.due("nobody there", x.missing(99, 9), 31);
        Due.due("nobody", new GreenHorseUpstairs().missing(99, 9), 0);
    }

    /** The last question takes 6 minutes of going and 6 of its own; who is done behind 100 or later needs 100. */
    private static void worth() {
        int[] due = {12, 12, 12, 11, 2, 1, 0, 0};
        int[] done = {98, 99, 100, 101, 110, 111, 112, 113};
        for (int i = 0; i < due.length; i++) {
            GreenHorseUpstairs x = draws("0606060", done[i] - 12 - 39);
            Due.due("the last", Due.tell(x, "qd561;g990;a03;"), 3);
            Due.due("worth(7), " + done[i], x.worth(7), due[i]);
        }
        Due.due("five never", Due.told("ql061;g000;g000;g000;g000;g000;").worth(0), 500);
        Due.due("five never none the less", Due.told("ql061;ql061;g000;g000;g000;g000;g000;").worth(0), 0);
        Due.due("one of five never", Due.told("ql061;g000;g000;g000;g000;g000;a16;a26;a36;a46;").worth(0), 104);
        Due.due("what all have", Due.told("ql061;ql001;g000;g000;w007;w100;").worth(0), 0);
        Due.due("nobody", Due.told("ql061;").worth(0), 0);
    }

    /** From room 4 the next FIRST is two minutes sooner; from room 3 both are as soon. */
    private static void two() {
        GreenHorseUpstairs x = toAndFro(100);
        Due.due("another", Due.tell(x, "g990;a14;"), 2);
        Due.due("done(0)", x.done(0), -9);
        Due.due("101 or 99, 100", x.two(1, 0), 10);
        Due.due("100, 101 or 99", x.two(0, 1), 1);
        GreenHorseUpstairs late = toAndFro(101);
        Due.due("another", Due.tell(late, "g990;a14;"), 2);
        Due.due("102 or 100, both never", late.two(1, 0), 0);
        Due.due("without questions", Due.told("g007;g007;").two(0, 1), 0);
        Due.due("one question", Due.told("ql061;g000;g007;").two(1, 0), 0);
        GreenHorseUpstairs five = Due.told("ql001;g000;g000;g000;g000;g000;");
        Due.due("two(4, 0)", five.two(4, 0), 0);
        Due.due("two(5, 0)", five.two(5, 0), -1);
        Due.due("two(4, 4)", five.two(4, 4), -1);
        nextOfEach();
    }

    /** With eight questions each FIRST is a question: it goes to the next one, alone there, and from 7 round to 0. */
    private static void nextOfEach() {
        for (int first = 0; first <= 7; first++) {
            int next = first == 7 ? 0 : first + 1;
            StringBuilder text = new StringBuilder();
            for (int question = 0; question < 8; question++) {
                text.append(question == next ? "ql001;" : "ql011;");
            }
            GreenHorseUpstairs x = Due.told("d01;g00" + first + ";g00" + next + ";");
            Due.due("questions", Due.tell(x, text.toString()), 8);
            Due.due("two(0, 1), FIRST " + first, x.two(0, 1), 10);
            Due.due("two(1, 0), FIRST " + first, x.two(1, 0), 1);
            Due.due("FIRST stays", x.group(0, 2), first);
        }
    }

    /** The last question is in room 6, to which no way leads; a door from room 0, where the one before it is, does. */
    private static void newDoor() {
        for (int minutes = 66; minutes <= 68; minutes++) {
            GreenHorseUpstairs x = draws("0505050", minutes);
            x.opens(5, 6);
            Due.due("the last", Due.tell(x, "ql061;g990;"), 2);
            Due.due("never now", x.ended(1), -9);
            // the other doors shorten the going to and fro, but lead to no room 6
            Due.due("with a door, " + minutes, x.newDoor(), minutes <= 67 ? 6 : -9);
            x.opens(0, 6);
            Due.due("with it", x.ended(1), minutes <= 67 ? minutes + 32 : -9);
        }
        Due.due("as soon", Due.told("d01;ql011;g000;").newDoor(), -9);
        Due.due("the last two rooms", Due.told("ql061;g000;a05;").newDoor(), 56);
        Due.due("the first two rooms", Due.told("ql011;g000;").newDoor(), 1);
        Due.due("the lesser ahead", Due.told("ql001;g000;a06;").newDoor(), 6);
        Due.due("nobody", Due.told("ql061;").newDoor(), -9);
    }

    private static void row(GreenHorseUpstairs x, int length, int v) {
        for (int i = 0; i < length; i++) {
            x.row(v);
        }
    }

    /** The last question, of one minute, is answered at 99; with a kind that takes more it is not. */
    private static void which() {
        GreenHorseUpstairs x = draws("0606060", 53);
        Due.due("the last", Due.tell(x, "ql061;g990;a03;"), 3);
        Due.due("at 99", x.done(0), 99);
        row(x, 7, 1);
        Due.due("seven of eight", x.which(0, 7, 0), -3);
        x.row(1);
        Due.due("kinds of one minute", x.which(0, 7, 0), 23);
        Due.due("each wit", x.which(0, 7, 1), 1023);
        x.row(1);
        Due.due("nine of eight", x.which(0, 7, 0), -3);
        x.clear();
        row(x, 7, 1);
        x.row(10);
        Due.due("kinds of more", x.which(0, 7, 0), 40);
        Due.due("no wit", x.which(0, 7, 1), 0);
        x.clear();
        row(x, 7, 1);
        x.row(99);
        Due.due("no kind answers 99", x.which(0, 7, 0), 0);
        for (int wit = 0; wit <= 9; wit++) {
            GreenHorseUpstairs y = Due.told("qm009;g000;");
            y.row(wit);
            Due.due("the one wit", y.which(0, 0, 1), 1 << wit);
        }
        GreenHorseUpstairs none = Due.told("ql061;g000;");
        none.row(10);
        Due.due("all kinds, none", none.which(0, 0, 0), 63);
        Due.due("all wits, none", none.which(0, 0, 1), 1023);
    }

    /** Of a full ROW the last number tells of 11 minutes. */
    private static void judge() {
        for (int at = 0; at <= 12; at++) {
            GreenHorseUpstairs x = Due.told("qd901;qd001;g990;");
            for (int n = 0; n < 12; n++) {
                x.row((n < 10 ? 0 : n - 9) + (n == at ? 1 : 0));
            }
            Due.due("no room for more", x.row(0), -6);
            Due.due("the first that is not so", x.judge(0), at < 12 ? at : -9);
            Due.due("none then", x.count(6), 0);
            Due.due("anew", x.row(99), 1);
        }
        GreenHorseUpstairs x = Due.told("ql001;g990;");
        Due.due("of none", x.judge(0), -9);
        x.row(0);
        Due.due("no such group", x.judge(1), -1);
        Due.due("it stays", x.count(6), 1);
        Due.due("clear()", x.clear(), 1);
        Due.due("clear() of none", x.clear(), 0);
        row(x, 12, 0);
        Due.due("clear() of all", x.clear(), 12);
        Due.due("row(0)", x.row(0), 1);
        Due.due("row(99)", x.row(99), 2);
    }

    /** One museum, all twenty, and each number between, with seeds at the ends of an int. */
    private static void lots() {
        int[] seeds = {0, 1, -1, Integer.MAX_VALUE, Integer.MIN_VALUE, 1013904223, -1013904223, 20261118};
        for (int seed : seeds) {
            GreenHorseUpstairs x = Due.told("ql061;ql061;ql061;ql061;ql061;ql061;ql061;ql051;g990;");
            for (int n = 1; n <= 20; n++) {
                Due.due("lots(" + n + ", " + seed + ", 0)", x.lots(n, seed, 0), rightByLot(n, seed));
            }
            Due.due("lots(0, " + seed + ", 0)", x.lots(0, seed, 0), -4);
            Due.due("lots(21, " + seed + ", 0)", x.lots(21, seed, 0), -6);
            Due.due("lots(20, " + seed + ", 1), copied by one", x.lots(20, seed, 1), 0);
        }
    }

    /**
     * Without doors a group in room 6 answers the questions from FIRST on to 6, one in room 5 the eighth if that is its
     * FIRST. An int is told here as what is left of 2 to the 32nd; without its sign's bit, of half of that.
     */
    private static int rightByLot(int n, int seed) {
        long whole = 1L << 32;
        long z = Math.floorMod((long) seed, whole);
        int right = 0;
        for (int museum = 0; museum < n; museum++) {
            z = (z * 1664525 + 1013904223) % whole;
            long room = z % (whole / 2) / 256 % 7;
            z = (z * 1664525 + 1013904223) % whole;
            long first = z % (whole / 2) / 256 % 8;
            if (room == 6) {
                right += (int) (7 - first);
            }
            if (room == 5 && first == 7) {
                right++;
            }
        }
        return right;
    }

    private static void image() {
        GreenHorseUpstairs x = new GreenHorseUpstairs();
        Due.due("on() of none", x.on(), -3);
        Due.due("image() of nothing", x.image(), 0);
        Due.due("a museum", Due.tell(x, "d01;ql001;g990;w000;m60;"), 5);
        Due.due("on()", x.on(), 0);
        for (int what = 0; what <= 7; what++) {
            Due.due("nothing again: count(" + what + ")", x.count(what), 0);
        }
        Due.due("-3 is counted on", x.count(13), 1);
        Due.due("door(0, 1)", x.door(0, 1), -9);
        GreenHorseUpstairs late = Twins.made(Twins.Past.FULL);
        Due.due("image() at 999", late.image(), 999);
        late.opens(5, 6);
        late.write(0, 0, 10);
        Due.due("on() at 999", late.on(), 999);
        Due.due("minutes(1)", late.minutes(1), -6);
        Due.due("door(5, 6)", late.door(5, 6), -9);
        Due.due("the ROW is as now", late.count(6), 12);
        Due.due("letters are as now", late.count(7), 96);
    }

    private static void counts() {
        GreenHorseUpstairs x = Twins.made(Twins.Past.FULL);
        int[] due = {8, 5, 1, 999};
        for (int what = 0; what < due.length; what++) {
            Due.due("count(" + what + ")", x.count(what), due[what]);
        }
        for (int group = 0; group < 5; group++) {
            for (int question = 0; question < 8; question++) {
                x.write(group, question, x.question(question, 3));
            }
        }
        Due.due("all answers", x.count(4), 40);
        Due.due("all right", x.count(5), 40);
        Due.due("right(0)", x.right(0), 40);
        x.write(4, 7, (x.question(7, 3) + 1) % 10);
        x.write(0, 0, 10);
        Due.due("all answers but one", x.count(4), 39);
        Due.due("all right but two", x.count(5), 38);
        Due.due("count(6)", x.count(6), 12);
        Due.due("count(7)", x.count(7), 96);
        for (int what : new int[] {Integer.MIN_VALUE, -1, 8, 9, 10, 17, Integer.MAX_VALUE}) {
            Due.due("count(" + what + ")", x.count(what), -9);
        }
        Due.refusals("count", x, 0, 0, 0, 0, 0);
    }

    /** As many groups and questions as there may be; the fifth group alone is tall, so all answers come from it. */
    private static void fiveAndEight() {
        GreenHorseUpstairs x = Due.told("ql901;ql902;ql903;ql904;ql905;ql906;ql907;ql908;g000;g000;g000;g000;g900;");
        for (int question = 0; question < 8; question++) {
            Due.due("the fifth ahead", x.write(4, question, question + 1), -9);
        }
        Due.due("behind(3, 8, 3)", x.behind(3, 8, 3), 8);
        Due.due("behind(4, 99, 3)", x.behind(4, 99, 3), 0);
        Due.due("behind(4, 0, 2)", x.behind(4, 0, 2), 8);
        Due.due("right(7)", x.right(7), 36);
        Due.due("right(99)", x.right(99), 40);
        Due.due("answer(3, 7, 0)", x.answer(3, 7, 0), 8);
        Due.due("answer(0, 7, 1)", x.answer(0, 7, 1), 4);
        Due.due("answer(3, 7, 1), of the least number", x.answer(3, 7, 1), 0);
        Due.due("answer(4, 7, 1)", x.answer(4, 7, 1), -9);
        Due.due("ended(0)", x.ended(0), 4);
        Due.due("ended(1)", x.ended(1), 8);
        Due.due("full(99, 0)", x.full(99, 0), 5);
        Due.due("worth(7)", x.worth(7), 4);
        Due.due("leave()", x.leave(), 0);
        Due.due("tell(99)", x.tell(99), -9);
        Due.due("bestFirst(4, 1)", x.bestFirst(4, 1), 0);
        Due.due("two(3, 4)", x.two(3, 4), 0);
        Due.due("missing(99, 0)", x.missing(99, 0), 0);
        Due.due("newDoor()", x.newDoor(), -9);
        Due.due("without the fifth's last", x.write(4, 7, 10), 8);
        Due.due("spreads(4, 7)", x.spreads(4, 7), 5);
        for (int question = 0; question < 8; question++) {
            x.row(question + 1);
        }
        Due.due("which(4, 7, 0)", x.which(4, 7, 0), 39);
        Due.due("which(4, 7, 1)", x.which(4, 7, 1), 1023);
        for (int group = 0; group < 5; group++) {
            for (int question = 0; question < 8; question++) {
                x.write(group, question, group == 3 ? 10 : question + 1);
            }
        }
        int copied = 0;
        for (int seed = 0; seed < 10; seed++) {
            int due = 8 * metByLot(seed);
            Due.due("lots(20, " + seed + ", 1)", x.lots(20, seed, 1), due);
            Due.due("lots(20, " + seed + ", 0)", x.lots(20, seed, 0), 20 * 4 * 8 + due);
            copied += due;
        }
        Due.isTrue("some are copied", copied > 0);
    }

    /** In how many of 20 museums of five groups group 3 is in room 0 with another one. */
    private static int metByLot(int seed) {
        int met = 0;
        int z = seed;
        for (int museum = 0; museum < 20; museum++) {
            int there = 0;
            for (int group = 0; group < 5; group++) {
                z = z * 1664525 + 1013904223;
                there |= (z & Integer.MAX_VALUE) / 256 % 7 == 0 ? 1 << group : 0;
                z = z * 1664525 + 1013904223;
            }
            met += (there & 8) != 0 && there != 8 ? 1 : 0;
        }
        return met;
    }
}
