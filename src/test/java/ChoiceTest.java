/** Promises 19 to 27: firsts, a question less, a guard, a false answer, the bus, worth, two, a door. */
public final class ChoiceTest {
    private static final String NEAR_FAR = "d01;d12;ql001;ql021;g900;";

    public static void main(String[] args) {
        promise19();
        promise20();
        promise20Refusals();
        promise21();
        promise22();
        promise23();
        promise24();
        promise25();
        promise26();
        promise27();
        Due.finish();
    }

    private static void promise19() {
        // there and back is 5, on the way 4
        GreenHorseUpstairs x = Due.told("d01;d12;ql021;ql011;g904;");
        Due.due("bestFirst(0, 0)", x.bestFirst(0, 0), 1);
        Due.due("FIRST stays", x.group(0, 2), 4);
        // with 0 done is 4 and two are right, with 1 it is 5 and three, with 2 it is 6 and two
        GreenHorseUpstairs y = Due.told("d01;ql001;ql913;ql012;g056;g902;a11;w113;");
        Due.due("bestFirst(0, 0), soonest", y.bestFirst(0, 0), 0);
        Due.due("bestFirst(0, 1), truest", y.bestFirst(0, 1), 1);
        GreenHorseUpstairs last = Due.told("d01;d12;ql021;ql021;ql021;ql021;ql021;ql021;ql021;ql011;g900;");
        Due.due("bestFirst(0, 0), 7", last.bestFirst(0, 0), 7);
        Due.due("never", Due.told("ql010;ql003;g905;").bestFirst(0, 0), -9);
        Due.due("never, none the less true", Due.told("ql010;ql003;g905;").bestFirst(0, 1), 1);
        Due.due("no question", Due.told("g907;").bestFirst(0, 0), 0);
        Due.due("no question", Due.told("g907;").bestFirst(0, 1), 0);
        Due.due("bestFirst(1, 2)", x.bestFirst(1, 2), -1);
        Due.due("bestFirst(-1, 0)", x.bestFirst(-1, 0), -1);
        Due.due("bestFirst(0, 2)", x.bestFirst(0, 2), -2);
        Due.due("bestFirst(0, -1)", x.bestFirst(0, -1), -2);
        Due.refusals("bestFirst", x, 2, 2, 0, 0, 0);
    }

    private static void promise20() {
        // they change places if the one begins here and the other there
        GreenHorseUpstairs x = Due.told("d12;ql013;ql023;g905;g904;a01;a12;");
        Due.due("apart(-1)", x.apart(-1), 1);
        Due.due("apart(0)", x.apart(0), 0);
        Due.due("apart(1)", x.apart(1), 1);
        Due.due("FIRST stays", x.group(0, 2), 5);
        GreenHorseUpstairs y = Due.told("d12;ql023;ql013;g900;g900;a01;a12;");
        Due.due("apart(-1)", y.apart(-1), 1);
        Due.due("apart(0), of several the first", y.apart(0), 0);
        Due.due("apart(1), of several the first", y.apart(1), 1);
        GreenHorseUpstairs three = Due.told("d12;d23;d13;ql023;ql033;ql013;g900;g900;g900;a01;a12;a23;");
        Due.due("apart(-1) of three", three.apart(-1), 1);
        Due.due("apart(0) of three", three.apart(0), 0);
        Due.due("apart(1) of three", three.apart(1), 1);
        Due.due("apart(2) of three", three.apart(2), 2);
        // group 0 must wait in room 1 with the eighth till group 1, by the seventh first, has left room 2
        GreenHorseUpstairs eighth = Due.told("d12;d23;qd920;ql001;ql001;ql001;ql001;ql031;qd320;qd910;");
        Due.due("groups", Due.tell(eighth,
            "g900;g900;a01;a12;w011;w021;w031;w041;w051;w101;w111;w121;w131;w141;w171;"), 15);
        Due.due("apart(-1), the eighth", eighth.apart(-1), 1);
        Due.due("apart(0), the eighth", eighth.apart(0), 7);
        Due.due("apart(1), the seventh", eighth.apart(1), 6);
        // they meet behind 31 minutes, or behind 30
        String draws = "d12;qd911;qd911;qd%11;ql021;g900;g900;a01;a12;w101;w111;w121;w131;";
        GreenHorseUpstairs late = Due.told(draws.replace('%', '9'));
        Due.due("apart(-1), 31", late.apart(-1), 1);
        Due.due("full of 31", late.full(31, 0), 2);
        GreenHorseUpstairs soon = Due.told(draws.replace('%', '8'));
        Due.due("apart(-1), 30", soon.apart(-1), 2);
        Due.due("apart(0), all the same", soon.apart(0), 0);
    }

    private static void promise20Refusals() {
        GreenHorseUpstairs x = new GreenHorseUpstairs();
        Due.due("apart(-1) of nobody", x.apart(-1), 0);
        Due.due("apart(0) of nobody", x.apart(0), -1);
        Due.due("apart(-2)", x.apart(-2), -4);
        Due.due("apart(least)", x.apart(Integer.MIN_VALUE), -4);
        Due.due("groups", Due.tell(x, "g900;g900;g900;"), 3);
        Due.due("apart(-1) of three", x.apart(-1), 3);
        Due.due("apart(2) of three", x.apart(2), 0);
        Due.due("apart(3) of three", x.apart(3), -1);
        Due.due("a fourth", Due.tell(x, "g900;"), 1);
        Due.due("apart(-1) of four", x.apart(-1), -3);
        Due.due("apart(3) of four", x.apart(3), -3);
        Due.due("apart(4) of four", x.apart(4), -1);
        Due.due("apart(-2) of four", x.apart(-2), -4);
        Due.refusals("apart", x, 3, 0, 2, 3, 0);
    }

    private static void promise21() {
        Due.due("the far one", Due.told(NEAR_FAR).leave(), 1);
        Due.due("the near one", Due.told("d01;d12;ql021;ql001;g901;a02;").leave(), 1);
        Due.due("of several the least", Due.told("ql001;ql001;ql001;g900;").leave(), 0);
        Due.due("the one that can't be", Due.told("ql001;ql061;g900;").leave(), 1);
        Due.due("never", Due.told("ql061;ql061;g900;").leave(), -9);
        Due.due("no question", Due.told("g900;").leave(), -9);
        Due.due("of all", Due.told("d01;d12;ql001;ql011;g900;g900;a12;").leave(), 0);
        Due.due("of one", Due.told("d01;d12;ql001;ql011;g900;").leave(), 1);
        GreenHorseUpstairs x = Due.told("d01;d12;ql001;ql021;g900;g900;w111;a02;a12;");
        Due.due("on all sheets", x.leave(), 0);
        Due.due("nothing is written", x.count(4), 1);
    }

    private static void promise22() {
        Due.due("of several the least", Due.told("ql903;ql904;g010;").tell(99), 0);
        GreenHorseUpstairs x = Due.told("ql003;ql904;g010;");
        Due.due("tell(0)", x.tell(0), -9);
        Due.due("tell(3)", x.tell(3), -9);
        Due.due("tell(4)", x.tell(4), 1);
        Due.due("tell(99)", x.tell(99), 1);
        Due.due("KIND stays", x.question(1, 0), 0);
        Due.due("the most", Due.told("ql903;ql904;g010;g000;w003;").tell(99), 1);
        Due.due("no more", Due.told("ql003;g000;").tell(99), -9);
        Due.due("none", new GreenHorseUpstairs().tell(99), -9);
        Due.due("tell(-1)", x.tell(-1), -4);
        Due.due("tell(100)", x.tell(100), -6);
        Due.refusals("tell", x, 0, 0, 0, 1, 1);
    }

    private static void promise23() {
        GreenHorseUpstairs x = Due.told("ql903;g000;g000;g000;");
        Due.due("to all", x.spreads(0, 0), 3);
        Due.due("from the last", x.spreads(2, 0), 3);
        Due.due("nothing is written", x.count(4), 0);
        Due.due("not to the tall", Due.told("ql903;g000;g900;g000;").spreads(0, 0), 2);
        Due.due("by itself, from wit", Due.told("qm903;g000;g040;g050;").spreads(0, 0), 2);
        Due.due("0 behind 9", Due.told("qm909;g000;g000;g010;").spreads(0, 0), 2);
        Due.due("alone", Due.told("ql903;g040;g040;a16;").spreads(0, 0), 1);
        Due.due("who has it now, too", Due.told("ql903;g000;g000;w104;").spreads(0, 0), 2);
        // one minute a question: the group walks in behind 9 minutes
        GreenHorseUpstairs y = Due.told("ql903;g000;g000;w100;");
        Due.due("spreads(1, 0)", y.spreads(1, 0), -3);
        Due.due("spreads(2, 0)", y.spreads(2, 0), -1);
        Due.due("spreads(-1, 0)", y.spreads(-1, 0), -1);
        Due.due("spreads(1, 1)", y.spreads(1, 1), -1);
        Due.due("spreads(1, -1)", y.spreads(1, -1), -1);
        Due.refusals("spreads", y, 4, 0, 1, 0, 0);
    }

    private static void promise24() {
        GreenHorseUpstairs x = Due.told("d01;d12;ql021;g900;g900;a15;");
        Due.due("missing(0, 0)", x.missing(0, 0), 2);
        Due.due("missing(1, 0)", x.missing(1, 0), 3);
        Due.due("missing(1, 1)", x.missing(1, 1), 2);
        Due.due("missing(2, 1)", x.missing(2, 1), 3);
        Due.due("missing(2, 2)", x.missing(2, 2), 2);
        Due.due("missing(99, 9)", x.missing(99, 9), 2);
        GreenHorseUpstairs chain = Due.told("d01;d12;d23;d34;d45;d56;g000;g000;g000;g000;g000;a11;a22;a36;a45;");
        Due.due("missing(0, 0)", chain.missing(0, 0), 30);
        Due.due("missing(0, 4)", chain.missing(0, 4), 24);
        Due.due("missing(0, 5)", chain.missing(0, 5), 8);
        Due.due("missing(0, 6)", chain.missing(0, 6), 0);
        Due.due("missing(-1, 10)", x.missing(-1, 10), -4);
        Due.due("missing(100, -1)", x.missing(100, -1), -4);
        Due.due("missing(100, 0)", x.missing(100, 0), -6);
        Due.due("missing(0, 10)", x.missing(0, 10), -6);
        Due.refusals("missing", x, 0, 0, 0, 2, 2);
    }

    private static void promise25() {
        GreenHorseUpstairs x = Due.told(NEAR_FAR);
        Due.due("worth(0)", x.worth(0), 1);
        Due.due("worth(1)", x.worth(1), 3);
        Due.due("nothing is written", x.count(4), 0);
        GreenHorseUpstairs y = Due.told("ql061;g900;g900;");
        Due.due("never, twice", y.worth(0), 200);
        GreenHorseUpstairs z = Due.told("ql061;ql061;ql001;g900;g900;w003;");
        Due.due("never none the less", z.worth(0), 0);
        Due.due("what one has", Due.told("ql001;qm001;g900;g900;w001;").worth(0), 1);
        Due.due("nobody", Due.told("ql061;").worth(0), 0);
        Due.due("worth(2)", x.worth(2), 1000000001);
        Due.due("worth(-1)", x.worth(-1), 1000000001);
        Due.refusals("worth", x, 2, 0, 0, 0, 0);
    }

    private static void promise26() {
        // to the far one first is 5, to the near one on the way 4
        GreenHorseUpstairs x = Due.told("d01;d12;ql021;ql011;g900;g901;g900;g900;a36;");
        Due.due("two(0, 1)", x.two(0, 1), 10);
        Due.due("two(1, 0)", x.two(1, 0), 1);
        Due.due("two(0, 2)", x.two(0, 2), 11);
        Due.due("two(1, 3), never either way", x.two(1, 3), 0);
        Due.due("two(0, 3)", x.two(0, 3), 10);
        Due.due("FIRST stays", x.group(0, 2), 0);
        // 14 minutes with the first, 13 with the next, 12 with the one behind it, which is not to be chosen
        GreenHorseUpstairs third = Due.told("d01;d12;d23;d34;d45;d56;ql061;ql031;ql011;g900;g900;");
        Due.due("two(0, 1), no third choice", third.two(0, 1), 11);
        nextOfSeven();
        Due.due("two(4, 0)", x.two(4, 0), -1);
        Due.due("two(0, 4)", x.two(0, 4), -1);
        Due.due("two(-1, 0)", x.two(-1, 0), -1);
        Due.due("two(0, -1)", x.two(0, -1), -1);
        Due.due("two(1, 1)", x.two(1, 1), -1);
        Due.refusals("two", x, 5, 0, 0, 0, 0);
    }

    /** FIRST 7 of three questions is the one of number 1; the next one of 7 is 0, not 8, which would be number 2. */
    private static void nextOfSeven() {
        // by numbers from 1 on 6 minutes, from 0 on 5, from 2 on 6
        GreenHorseUpstairs sooner = Due.told("d01;d12;ql011;ql011;ql021;g907;g907;g900;");
        Due.due("two(0, 1) of 7, 0 is sooner", sooner.two(0, 1), 11);
        Due.due("two(0, 2) of 7 and 0", sooner.two(0, 2), 10);
        Due.due("two(2, 0) of 0 and 7", sooner.two(2, 0), 1);
        Due.due("FIRST stays 7", sooner.group(0, 2), 7);
        // from 1 on 7 minutes, from 0 on 7, from 2 on 6
        GreenHorseUpstairs equal = Due.told("d01;d12;ql021;ql011;ql001;g907;g907;");
        Due.due("two(0, 1) of 7, 8 would be sooner", equal.two(0, 1), 0);
        // from 0 (FIRST 6) on 6 minutes, from 1 (7) on 5
        GreenHorseUpstairs six = Due.told("d01;d12;ql021;ql011;ql011;g906;g906;");
        Due.due("two(0, 1) of 6", six.two(0, 1), 11);
        // with eight questions 7 is the last one, and 0 behind it
        GreenHorseUpstairs eight = Due.told("d01;ql001;ql001;ql001;ql001;ql001;ql001;ql001;ql011;g907;g907;");
        Due.due("two(0, 1) of 7 of eight", eight.two(0, 1), 11);
    }

    private static void promise27() {
        GreenHorseUpstairs x = Due.told("d01;d12;d23;ql031;g900;");
        Due.due("shorter", x.newDoor(), 3);
        Due.due("doors", x.count(2), 3);
        Due.due("to the next number", Due.told("ql011;g900;").newDoor(), 1);
        Due.due("the last two", Due.told("ql061;g900;a05;").newDoor(), 56);
        Due.due("at last", Due.told("ql061;g900;").newDoor(), 6);
        Due.due("of several the first", Due.told("d12;ql031;g900;g900;a01;a12;").newDoor(), 13);
        Due.due("the lesser ahead", Due.told("ql021;g900;a06;").newDoor(), 26);
        Due.due("two are lacking", Due.told("ql061;ql051;g900;").newDoor(), -9);
        Due.due("no sooner", Due.told("d06;ql061;g900;").newDoor(), -9);
        Due.due("nobody", new GreenHorseUpstairs().newDoor(), -9);
        Due.due("no door less", Due.told("d01;d02;d13;d23;ql031;g900;").newDoor(), 3);
    }
}
