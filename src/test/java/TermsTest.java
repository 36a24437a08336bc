/** The bounds that "Terms" names of what there is and of what is told: each at the bound and just beyond it. */
public final class TermsTest {
    private static final Twins.Past NEW = Twins.Past.NEW;
    private static final Twins.Past SOME = Twins.Past.SOME;
    private static final Twins.Past FULL = Twins.Past.FULL;
    /** A statement of each form that can be told behind THERE. */
    private static final String[] STATEMENTS = {"d01;", "ql000;", "g000;", "a00;", "w000;", "m01;"};
    private static final String THERE = "qd960;g000;";
    /** 960 minutes. */
    private static final String LATE = "m60;m60;m60;m60;m60;m60;m60;m60;m60;m60;m60;m60;m60;m60;m60;m60;";

    public static void main(String[] args) {
        rooms();
        doors();
        questions();
        groups();
        figures();
        firsts();
        atFirst();
        minute();
        letters();
        faultOfForm();
        faultLacking();
        faultOfPlace();
        nextQuestion();
        ways();
        kindMinutes();
        answersRound();
        copied();
        Due.finish();
    }

    private static void rooms() {
        GreenHorseUpstairs x = Due.told("d06;ql061;ql001;g900;g900;a16;a00;");
        Due.due("question(0, 2)", x.question(0, 2), 6);
        Due.due("question(1, 2)", x.question(1, 2), 0);
        Due.due("group(0, 3)", x.group(0, 3), 0);
        Due.due("group(1, 3)", x.group(1, 3), 6);
        Due.due("door(0, 6)", x.door(0, 6), 1);
        Due.due("door(6, 0)", x.door(6, 0), 1);
        Due.due("door(6, 6)", x.door(6, 6), 0);
        Due.due("door(0, 0)", x.door(0, 0), 0);
        Due.due("opens(6, 0)", x.opens(6, 0), 0);
        Due.due("opens(0, 6)", x.opens(0, 6), 1);
        Due.due("put(0, 6)", x.put(0, 6), 0);
        Due.due("put(0, 0)", x.put(0, 0), 6);
        for (String text : new String[] {"d07;", "d70;", "d67;", "d76;", "d77;", "d09;", "ql070;", "ql090;"}) {
            Twins.fault(NEW, text, -2000);
            Twins.fault(SOME, text, -2000);
        }
        Twins.fault(SOME, "a07;", -2000);
        Twins.fault(SOME, "a09;", -2000);
        for (int room = 0; room < 7; room++) {
            Twins.fault(SOME, "d" + room + room + ";", -2000);
        }
    }

    private static void doors() {
        GreenHorseUpstairs x = new GreenHorseUpstairs();
        Due.due("none at first", x.count(2), 0);
        Due.due("without doors none goes", Due.tell(x, "ql061;g900;"), 2);
        Due.due("newDoor() of none", x.newDoor(), 6);
        int doors = 0;
        for (int one = 0; one < 7; one++) {
            for (int other = one + 1; other < 7; other++) {
                x.opens(doors % 2 == 0 ? one : other, doors % 2 == 0 ? other : one);
                doors++;
                Due.due("doors", x.count(2), doors);
            }
        }
        Due.due("all that there can be", doors, 21);
        Due.due("door(3, 5)", x.door(3, 5), 1);
        Due.due("newDoor() of all", x.newDoor(), -9);
        Due.due("told again", Due.tell(x, "d53;"), 1);
        Due.due("none", x.door(3, 5), 2);
        Due.due("doors", x.count(2), 20);
        Due.due("told once more", Due.tell(x, "d35;d53;d35;"), 3);
        Due.due("one", x.door(3, 5), 1);
    }

    private static void questions() {
        GreenHorseUpstairs x = Due.told("ql000;qd111;qc222;qm333;qn444;qg555;ql666;");
        Due.due("the eighth", Due.tell(x, "qd967;"), 1);
        Due.due("questions", x.count(0), 8);
        Due.due("question(7, 1)", x.question(7, 1), 9);
        Due.due("question(7, 3)", x.question(7, 3), 7);
        Due.due("the ninth", Due.tell(x, "qd967;"), -2000);
        Due.due("questions", x.count(0), 8);
        Due.due("the eighth's answer", Due.tell(x, "g000;w079;"), 2);
        Due.due("sheet(0, 7)", x.sheet(0, 7), 9);
        Due.due("of no ninth", Due.tell(x, "w089;"), -2000);
        Twins.fault(FULL, "ql000;", -2000);
        Twins.fault(FULL, "d01;m00;ql000;", -2004);
        Twins.fault(SOME, "ql000;ql000;ql000;ql000;ql000;ql000;", -2030);
        Twins.fault(NEW, "ql000;g000;w010;ql000;", -2011);
        Twins.fault(NEW, "g000;w000;ql000;", -2005);
    }

    private static void groups() {
        GreenHorseUpstairs x = Due.told("ql000;g001;g112;g223;g334;");
        Due.due("the fifth", Due.tell(x, "g985;a46;w407;"), 3);
        Due.due("groups", x.count(1), 5);
        Due.due("group(4, 0)", x.group(4, 0), 9);
        Due.due("group(4, 1)", x.group(4, 1), 8);
        Due.due("group(4, 2)", x.group(4, 2), 5);
        Due.due("group(4, 3)", x.group(4, 3), 6);
        Due.due("sheet(4, 0)", x.sheet(4, 0), 7);
        Due.due("the sixth", Due.tell(x, "g000;"), -2000);
        Due.due("groups", x.count(1), 5);
        Due.due("of no sixth", Due.tell(x, "a50;"), -2000);
        Due.due("of no sixth", Due.tell(x, "w500;"), -2000);
        Twins.fault(FULL, "g000;", -2000);
        Twins.fault(SOME, "g000;g000;g000;", -2010);
        Twins.fault(SOME, "a30;g000;", -2000);
        Twins.fault(SOME, "w300;g000;", -2000);
        Twins.fault(SOME, "g000;a40;", -2005);
    }

    /** FIGURE, TALL, WIT, the TRUE answer and answers: a digit each, so all of 0 .. 9 and no letter beside them. */
    private static void figures() {
        for (int digit = 0; digit <= 9; digit++) {
            GreenHorseUpstairs x = Due.told("ql" + digit + "0" + digit + ";g" + digit + digit + "0;w00" + digit + ";");
            Due.due("FIGURE", x.question(0, 1), digit);
            Due.due("TRUE", x.question(0, 3), digit);
            Due.due("TALL", x.group(0, 0), digit);
            Due.due("WIT", x.group(0, 1), digit);
            Due.due("answer", x.sheet(0, 0), digit);
            Due.due("right", x.count(5), 1);
            Due.due("write", x.write(0, 0, 9 - digit), digit);
            Due.due("written", x.sheet(0, 0), 9 - digit);
        }
        GreenHorseUpstairs y = Due.told("ql000;g000;w000;");
        Due.due("0 is an answer", y.count(4), 1);
        Due.due("10 is none", y.write(0, 0, 10), 0);
        Due.due("10 is none", y.count(4), 0);
    }

    private static void firsts() {
        for (int first = 0; first <= 7; first++) {
            GreenHorseUpstairs x = Due.told("g00" + first + ";");
            Due.due("FIRST", x.group(0, 2), first);
            Due.due("start", x.start(0, 7 - first), first);
            Due.due("FIRST", x.group(0, 2), 7 - first);
        }
        Twins.fault(NEW, "g008;", -2000);
        Twins.fault(NEW, "g009;", -2000);
        Twins.fault(SOME, "g007;g008;", -2005);
    }

    private static void atFirst() {
        GreenHorseUpstairs x = Due.told("d01;qd919;g900;a01;m03;");
        Due.due("a group more", Due.tell(x, "g900;ql001;"), 2);
        Due.due("AT", x.group(1, 3), 0);
        Due.due("LOOKED", x.group(1, 4), 0);
        Due.due("LOOKED of the first", x.group(0, 4), 3);
        Due.due("sheet(1, 0)", x.sheet(1, 0), -9);
        Due.due("sheet(1, 1)", x.sheet(1, 1), -9);
        Due.due("sheet(0, 1)", x.sheet(0, 1), -9);
        Due.due("MINUTE", x.count(3), 3);
        Due.due("MINUTE at first", new GreenHorseUpstairs().count(3), 0);
    }

    private static void minute() {
        Due.due("m01", Due.told("m01;").count(3), 1);
        Due.due("m60", Due.told("m60;").count(3), 60);
        for (String text : new String[] {"m00;", "m61;", "m70;", "m99;"}) {
            Twins.fault(NEW, text, -2000);
            Twins.fault(SOME, text, -2000);
        }
        Due.due("999", Due.told(LATE + "m39;").count(3), 999);
        Twins.fault(NEW, LATE + "m40;", -2064);
        Twins.fault(NEW, LATE + "m38;m02;", -2068);
        Due.due("999 in two", Due.told(LATE + "m38;m01;").count(3), 999);
        GreenHorseUpstairs x = Due.told(LATE);
        Due.due("minutes(40) at 960", x.minutes(40), -6);
        Due.due("minutes(39) at 960", x.minutes(39), 0);
        Due.due("MINUTE", x.count(3), 999);
        Due.due("minutes(1) at 999", x.minutes(1), -6);
        Due.due("m01 at 999", Due.tell(x, "m01;"), -2000);
        Twins.fault(FULL, "m01;", -2000);
        // in thought it goes on
        Due.due("told at 999", Due.tell(x, "qd905;g900;"), 2);
        Due.due("done(0) at 999", x.done(0), 10);
        Due.due("right(9) at 999", x.right(9), 0);
        Due.due("right(10) at 999", x.right(10), 1);
        Due.due("answer(0, 0, 0) at 999", x.answer(0, 0, 0), 5);
        Due.due("MINUTE", x.count(3), 999);
    }

    private static void letters() {
        String most = "d01;d12;d23;d34;d45;d56;d02;d03;d04;d05;d06;d13;"
            + "d14;d15;d16;d24;d25;d26;d35;d36;d46;m10;m20;m30;";
        GreenHorseUpstairs x = new GreenHorseUpstairs();
        for (int i = 0; i < 96; i++) {
            Due.due("letter " + (i + 1), x.letter(most.charAt(i)), i + 1);
        }
        Due.due("letter 97", x.letter('d'), -6);
        Due.due("letters", x.count(7), 96);
        Due.due("museum() of 96", x.museum(), 24);
        Due.due("letters behind", x.count(7), 0);
        Due.due("MINUTE", x.count(3), 60);
        Due.due("letter(0)", x.letter(0), 1);
        Due.due("museum() of 0", x.museum(), -1000);
        Due.due("letter(255)", x.letter(255), 1);
        Due.due("museum() of 255", x.museum(), -1000);
        Due.due("museum() of none", x.museum(), -1000);
        Due.due("one is enough", Due.tell(x, "d01;"), 1);
    }

    /** At each place of each form: the letters beside those that fit there are the place of a FAULT. */
    private static void faultOfForm() {
        int there = THERE.length();
        for (String statement : STATEMENTS) {
            Due.due(statement, Due.tell(new GreenHorseUpstairs(), THERE + statement), 3);
            for (int i = 1; i < statement.length(); i++) {
                String ahead = THERE + statement.substring(0, i);
                String behind = statement.substring(i + 1);
                boolean isKind = statement.charAt(i) == 'l';
                String wrong = isKind ? "abefhkopLDCMNG0;\u0000\u00ff" : "/:a ;\u0000\u00ff";
                for (char letter : wrong.toCharArray()) {
                    if (letter != statement.charAt(i)) {
                        Twins.fault(NEW, ahead + letter + behind, -1000 - there - i);
                    }
                }
            }
            Twins.fault(NEW, THERE + statement.substring(0, statement.length() - 1) + "0;",
                -1000 - there - statement.length() + 1);
            Twins.fault(SOME, statement + ";", -1000 - statement.length());
        }
        for (char letter : "bcefhlnprtvxzDQGAWM0;: \u0000\u00ff".toCharArray()) {
            Twins.fault(NEW, letter + "00;", -1000);
            Twins.fault(NEW, THERE + letter + "00;", -1000 - there);
        }
        // kind 1 is told ahead of kind 2, wherever it stands
        Twins.fault(SOME, "d00;d0", -1006);
        Twins.fault(SOME, "m00;x", -1004);
        Twins.fault(SOME, "d01;a90;d1x;", -1010);
    }

    /** The end, if something lacks: each text that could go on at its end. */
    private static void faultLacking() {
        Twins.fault(NEW, "", -1000);
        Twins.fault(SOME, "", -1000);
        for (String statement : STATEMENTS) {
            for (int i = 1; i < statement.length(); i++) {
                Twins.fault(NEW, statement.substring(0, i), -1000 - i);
                Twins.fault(NEW, THERE + statement.substring(0, i), -1000 - THERE.length() - i);
            }
        }
        Twins.fault(NEW, LATE + "m10;m10;m10;m10;m10;m10;m10;m10", -1095);
        Twins.fault(NEW, LATE + "g000;g000;g000;g000;g000;g000;ql", -1096);
    }

    /** A statement is looked at behind all that stand ahead of it in the text, and only behind these. */
    private static void faultOfPlace() {
        Twins.fault(NEW, "w000;", -2000);
        Twins.fault(NEW, "ql000;w000;", -2006);
        Twins.fault(NEW, "g000;w000;", -2005);
        Twins.fault(NEW, "a00;", -2000);
        Twins.fault(NEW, "d01;a00;g000;", -2004);
        Twins.fault(NEW, "g000;g000;a20;", -2010);
        Twins.fault(NEW, "ql000;g000;w109;", -2011);
        Twins.fault(NEW, "ql000;g000;w019;", -2011);
        Twins.fault(SOME, "d01;ql123;g456;a06;w015;m07;d11;d22;", -2028);
        Twins.fault(SOME, "w335;g000;", -2000);
        Twins.fault(SOME, "g000;ql000;w335;w345;", -2016);
        Twins.fault(FULL, "d01;d02;a06;w010;a46;w479;g000;", -2026);
        GreenHorseUpstairs x = Due.told("ql000;g000;w000;");
        Due.due("all of it comes", Due.tell(x, "ql000;g000;w119;a16;"), 4);
        Due.due("sheet(1, 1)", x.sheet(1, 1), 9);
        Due.due("group(1, 3)", x.group(1, 3), 6);
    }

    /** From FIRST on, round, of as many questions as there may be and of each FIRST. */
    private static void nextQuestion() {
        GreenHorseUpstairs none = Due.told("g007;");
        Due.due("of no questions", none.group(0, 5), -9);
        for (int questions = 1; questions <= 8; questions++) {
            for (int first = 0; first <= 7; first++) {
                GreenHorseUpstairs x = Due.told("g00" + first + ";");
                for (int i = 0; i < questions; i++) {
                    Due.due("a question more", Due.tell(x, "ql060;"), 1);
                }
                for (int i = 0; i < questions; i++) {
                    int next = x.group(0, 5);
                    Due.due("FIRST " + first + " of " + questions + ", number " + i, next, (first + i) % questions);
                    x.write(0, next, 0);
                }
                Due.due("FIRST " + first + " of " + questions + ", all", x.group(0, 5), -9);
                x.write(0, 0, 10);
                Due.due("round to 0", x.group(0, 5), 0);
            }
        }
    }

    private static void ways() {
        // of several to the least room, wherever that stands; never back
        GreenHorseUpstairs x = Due.told("d65;d64;d63;d52;d42;d32;ql021;g900;a06;m01;");
        Due.due("of three ways", x.group(0, 3), 3);
        Due.due("one way less", x.opens(3, 2), 0);
        x.put(0, 6);
        x.minutes(1);
        Due.due("of two ways", x.group(0, 3), 4);
        x.put(0, 6);
        x.opens(4, 2);
        x.minutes(1);
        Due.due("of one way", x.group(0, 3), 5);
        x.put(0, 6);
        x.opens(5, 2);
        x.minutes(1);
        Due.due("of no way", x.group(0, 3), 6);
        Due.due("longest way", Due.told("d01;d12;d23;d34;d45;d56;ql061;g900;m06;").group(0, 3), 6);
        waysThroughEach();
        Due.due("without a question", Due.told("d01;g900;m60;").group(0, 3), 0);
        Due.due("LOOKED without a way", Due.told("qd901;qd961;g900;m05;w001;m01;").group(0, 4), 0);
    }

    /** Each room, the first and the last too, as the one through which all ways go. */
    private static void waysThroughEach() {
        for (int middle = 0; middle < 7; middle++) {
            GreenHorseUpstairs x = Due.told("g900;");
            for (int room = 0; room < 7; room++) {
                if (room != middle) {
                    x.opens(room, middle);
                }
            }
            int to = middle == 6 ? 5 : 6;
            int from = middle == 0 ? 1 : 0;
            for (int one = 0; one < 7; one++) {
                for (int other = 0; other < 7; other++) {
                    int due = one == middle || other == middle ? 1 : 2;
                    Due.due("through " + middle + ": door", x.door(one, other), one == other ? 0 : due);
                }
            }
            Due.due("a question", Due.tell(x, "ql9" + to + "0;"), 1);
            x.put(0, from);
            x.minutes(1);
            Due.due("through " + middle, x.group(0, 3), middle);
            x.minutes(1);
            Due.due("to " + to, x.group(0, 3), to);
        }
    }

    /** As many minutes as the kind takes, and one less. */
    private static void takes(String question, int minutes) {
        GreenHorseUpstairs x = Due.told(question + "g990;");
        Due.due(question + " MINUTES", x.question(0, 4), minutes);
        if (minutes > 1) {
            x.minutes(minutes - 1);
        }
        Due.due(question + " not yet", x.sheet(0, 0), -9);
        Due.due(question + " LOOKED", x.group(0, 4), minutes - 1);
        x.minutes(1);
        Due.isTrue(question + " now", x.sheet(0, 0) != -9);
        Due.due(question + " LOOKED again", x.group(0, 4), 0);
        x.minutes(1);
        Due.due(question + " LOOKED no more", x.group(0, 4), 0);
    }

    private static void kindMinutes() {
        for (int figure = 0; figure <= 9; figure++) {
            takes("ql" + figure + "05;", 1);
            takes("qd" + figure + "05;", 1 + figure);
            takes("qc" + figure + "05;", 1);
            takes("qm" + figure + "05;", 2);
            takes("qn" + figure + "05;", 1 + figure);
            takes("qg" + figure + "05;", 3);
        }
    }

    /** 1 more than 9 is 0: a NUMBER's answer and a false one; with each TRUE answer. */
    private static void answersRound() {
        for (int truth = 0; truth <= 9; truth++) {
            int more = truth == 9 ? 0 : truth + 1;
            GreenHorseUpstairs x = Due.told("qn50" + truth + ";g940;g950;m06;");
            Due.due("WIT below FIGURE, TRUE " + truth, x.sheet(0, 0), more);
            Due.due("WIT as FIGURE, TRUE " + truth, x.sheet(1, 0), truth);
            GreenHorseUpstairs y = Due.told("ql90" + truth + ";g000;g000;g000;");
            y.write(1, 0, more);
            Due.due("all have it, TRUE " + truth, y.spreads(0, 0), 3);
            y.write(1, 0, truth);
            Due.due("it alone has it, TRUE " + truth, y.spreads(2, 0), 1);
        }
        Due.due("FIGURE 0 of WIT 0", Due.told("qn004;g900;m01;").sheet(0, 0), 4);
        Due.due("FIGURE 9 of WIT 9", Due.told("qn904;g990;m10;").sheet(0, 0), 4);
        Due.due("FIGURE 9 of WIT 8", Due.told("qn904;g980;m10;").sheet(0, 0), 5);
    }

    /** TALL as FIGURE and one below it; the group itself is not another one; of several the least number. */
    private static void copied() {
        for (String kind : new String[] {"l", "d"}) {
            GreenHorseUpstairs x = Due.told("q" + kind + "507;g540;g440;g000;g000;w302;w203;");
            Due.due(kind + " TALL as FIGURE", x.answer(0, 0, 0), 7);
            Due.due(kind + " TALL as FIGURE, copied", x.answer(0, 0, 1), -9);
            x.write(0, 0, 7);
            x.put(0, 1);
            Due.due(kind + " TALL below FIGURE", x.answer(1, 0, 0), 3);
            Due.due(kind + " of the least number", x.answer(1, 0, 1), 2);
            x.put(2, 1);
            Due.due(kind + " of the only one", x.answer(1, 0, 1), 3);
            x.put(3, 1);
            Due.due(kind + " of none", x.answer(1, 0, 1), -9);
            Due.due(kind + " of none, WIT", x.answer(1, 0, 0), 4);
        }
        GreenHorseUpstairs y = Due.told("qc507;g540;g000;g000;w202;w103;");
        Due.due("c TALL as FIGURE, of the least number", y.answer(0, 0, 1), 1);
        Due.due("c TALL as FIGURE", y.answer(0, 0, 0), 3);
        Due.due("by the least number, not the least answer", y.write(1, 0, 9), 3);
        Due.due("c", y.answer(0, 0, 0), 9);
    }
}
