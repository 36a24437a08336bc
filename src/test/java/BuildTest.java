/** Promises 4 to 11: doors, questions, groups, sheets, and what changes them. */
public final class BuildTest {
    private static final int[] WRONG = {Integer.MIN_VALUE, -9, -1};

    public static void main(String[] args) {
        promise4();
        promise5();
        promise6();
        promise7();
        promise8();
        promise9();
        promise10();
        promise11();
        Due.finish();
    }

    private static void promise4() {
        GreenHorseUpstairs x = Due.told("d01;d12;d23;d56;");
        Due.due("door(0, 3)", x.door(0, 3), 3);
        Due.due("door(3, 0)", x.door(3, 0), 3);
        Due.due("door(1, 3)", x.door(1, 3), 2);
        Due.due("door(6, 5)", x.door(6, 5), 1);
        Due.due("door(0, 5)", x.door(0, 5), -9);
        Due.due("door(4, 0)", x.door(4, 0), -9);
        Due.due("door(4, 4)", x.door(4, 4), 0);
        for (int room : WRONG) {
            Due.due("door(" + room + ", 0)", x.door(room, 0), -1);
            Due.due("door(0, " + room + ")", x.door(0, room), -1);
        }
        Due.due("door(7, 0)", x.door(7, 0), -1);
        Due.due("door(0, 7)", x.door(0, 7), -1);
        Due.due("door(most, most)", x.door(Integer.MAX_VALUE, Integer.MAX_VALUE), -1);
        Due.refusals("door", x, 9, 0, 0, 0, 0);
        GreenHorseUpstairs chain = Due.told("d01;d12;d23;d34;d45;d56;");
        Due.due("door(0, 6)", chain.door(0, 6), 6);
    }

    private static void promise5() {
        GreenHorseUpstairs x = Due.told("ql012;qd345;qc669;qm900;qn951;qg123;qd000;qn060;");
        int[][] due = {{0, 0, 1, 2, 1}, {1, 3, 4, 5, 4}, {2, 6, 6, 9, 1}, {3, 9, 0, 0, 2},
            {4, 9, 5, 1, 10}, {5, 1, 2, 3, 3}, {1, 0, 0, 0, 1}, {4, 0, 6, 0, 1}};
        for (int question = 0; question < 8; question++) {
            for (int what = 0; what < 5; what++) {
                Due.due("question(" + question + ", " + what + ")", x.question(question, what), due[question][what]);
            }
        }
        Due.due("question(8, 0)", x.question(8, 0), -1);
        Due.due("question(-1, 0)", x.question(-1, 0), -1);
        Due.due("question(8, 9)", x.question(8, 9), -1);
        Due.due("question(0, 5)", x.question(0, 5), -2);
        Due.due("question(0, -1)", x.question(0, -1), -2);
        Due.due("question(0, most)", x.question(0, Integer.MAX_VALUE), -2);
        Due.refusals("question", x, 3, 3, 0, 0, 0);
    }

    private static void promise6() {
        GreenHorseUpstairs x = Due.told("ql001;ql002;ql003;g127;g890;a16;");
        int[][] due = {{1, 2, 7, 0, 0, 1}, {8, 9, 0, 6, 0, 0}};
        for (int group = 0; group < 2; group++) {
            for (int what = 0; what < 6; what++) {
                Due.due("group(" + group + ", " + what + ")", x.group(group, what), due[group][what]);
            }
        }
        // FIRST 7 of 3 questions is the one of number 1, then 2, then round to 0
        x.write(0, 1, 5);
        Due.due("next behind 1", x.group(0, 5), 2);
        x.write(0, 2, 5);
        Due.due("next behind 2", x.group(0, 5), 0);
        x.write(0, 0, 5);
        Due.due("next behind all", x.group(0, 5), -9);
        x.write(0, 1, 10);
        Due.due("next, wiped out", x.group(0, 5), 1);
        Due.due("group(2, 0)", x.group(2, 0), -1);
        Due.due("group(-1, 0)", x.group(-1, 0), -1);
        Due.due("group(2, 9)", x.group(2, 9), -1);
        Due.due("group(0, 6)", x.group(0, 6), -2);
        Due.due("group(0, -1)", x.group(0, -1), -2);
        Due.refusals("group", x, 3, 2, 0, 0, 0);
        Due.due("next without questions", Due.told("g007;").group(0, 5), -9);
        GreenHorseUpstairs looking = Due.told("qd900;g900;m04;");
        Due.due("LOOKED", looking.group(0, 4), 4);
    }

    private static void promise7() {
        GreenHorseUpstairs x = Due.told("ql001;ql002;g000;g000;w013;w100;");
        Due.due("sheet(0, 0)", x.sheet(0, 0), -9);
        Due.due("sheet(0, 1)", x.sheet(0, 1), 3);
        Due.due("sheet(1, 0)", x.sheet(1, 0), 0);
        Due.due("sheet(1, 1)", x.sheet(1, 1), -9);
        Due.due("sheet(2, 0)", x.sheet(2, 0), -1);
        Due.due("sheet(0, 2)", x.sheet(0, 2), -1);
        Due.due("sheet(-1, 0)", x.sheet(-1, 0), -1);
        Due.due("sheet(0, -1)", x.sheet(0, -1), -1);
        Due.refusals("sheet", x, 4, 0, 0, 0, 0);
    }

    private static void promise8() {
        GreenHorseUpstairs x = new GreenHorseUpstairs();
        Due.due("opens(2, 5)", x.opens(2, 5), 1);
        Due.due("door(5, 2)", x.door(5, 2), 1);
        Due.due("opens(5, 6)", x.opens(5, 6), 1);
        Due.due("door(6, 2)", x.door(6, 2), 2);
        Due.due("doors", x.count(2), 2);
        Due.due("opens(5, 2)", x.opens(5, 2), 0);
        Due.due("door(2, 5)", x.door(2, 5), -9);
        Due.due("door(5, 6)", x.door(5, 6), 1);
        Due.due("opens(0, 0)", x.opens(0, 0), -1);
        Due.due("opens(7, 0)", x.opens(7, 0), -1);
        Due.due("opens(0, 7)", x.opens(0, 7), -1);
        Due.due("opens(-1, 0)", x.opens(-1, 0), -1);
        Due.due("opens(0, -1)", x.opens(0, -1), -1);
        Due.due("opens(7, 7)", x.opens(7, 7), -1);
        Due.due("doors", x.count(2), 1);
        Due.refusals("opens", x, 6, 0, 0, 0, 0);
    }

    private static void promise9() {
        GreenHorseUpstairs x = Due.told("qd900;g900;g900;m03;");
        Due.due("put(0, 6)", x.put(0, 6), 0);
        Due.due("group(0, 3)", x.group(0, 3), 6);
        Due.due("group(0, 4)", x.group(0, 4), 0);
        Due.due("put(0, 1)", x.put(0, 1), 6);
        Due.due("group(1, 4) as it was", x.group(1, 4), 3);
        Due.due("put(1, 0), there already", x.put(1, 0), 0);
        Due.due("group(1, 4) none the less", x.group(1, 4), 0);
        Due.due("put(2, 0)", x.put(2, 0), -1);
        Due.due("put(-1, 0)", x.put(-1, 0), -1);
        Due.due("put(0, 7)", x.put(0, 7), -1);
        Due.due("put(0, -1)", x.put(0, -1), -1);
        Due.due("group(0, 3)", x.group(0, 3), 1);
        Due.refusals("put", x, 4, 0, 0, 0, 0);
    }

    private static void promise10() {
        GreenHorseUpstairs x = Due.told("qd900;qd900;g003;m03;");
        Due.due("start(0, 7)", x.start(0, 7), 3);
        Due.due("group(0, 2)", x.group(0, 2), 7);
        Due.due("start(0, 0)", x.start(0, 0), 7);
        Due.due("group(0, 4)", x.group(0, 4), 3);
        Due.due("group(0, 5)", x.group(0, 5), 0);
        Due.due("start(0, 8)", x.start(0, 8), -6);
        Due.due("start(0, most)", x.start(0, Integer.MAX_VALUE), -6);
        Due.due("start(0, -1)", x.start(0, -1), -4);
        Due.due("start(0, least)", x.start(0, Integer.MIN_VALUE), -4);
        Due.due("start(1, -1)", x.start(1, -1), -1);
        Due.due("start(-1, 8)", x.start(-1, 8), -1);
        Due.due("group(0, 2)", x.group(0, 2), 0);
        Due.refusals("start", x, 2, 0, 0, 2, 2);
    }

    private static void promise11() {
        GreenHorseUpstairs x = Due.told("qd900;ql000;g000;g000;m02;");
        Due.due("write(0, 1, 9)", x.write(0, 1, 9), -9);
        Due.due("sheet(0, 1)", x.sheet(0, 1), 9);
        Due.due("sheet(1, 1)", x.sheet(1, 1), -9);
        Due.due("write(0, 1, 0)", x.write(0, 1, 0), 9);
        Due.due("write(0, 1, 10)", x.write(0, 1, 10), 0);
        Due.due("sheet(0, 1)", x.sheet(0, 1), -9);
        Due.due("write(0, 1, 10), none there", x.write(0, 1, 10), -9);
        Due.due("LOOKED stays", x.group(0, 4), 2);
        Due.due("write(0, 1, 11)", x.write(0, 1, 11), -6);
        Due.due("write(0, 1, -1)", x.write(0, 1, -1), -4);
        Due.due("write(2, 1, -1)", x.write(2, 1, -1), -1);
        Due.due("write(-1, 1, 0)", x.write(-1, 1, 0), -1);
        Due.due("write(0, 2, 11)", x.write(0, 2, 11), -1);
        Due.due("write(0, -1, 0)", x.write(0, -1, 0), -1);
        Due.due("sheet(0, 1)", x.sheet(0, 1), -9);
        Due.refusals("write", x, 4, 0, 0, 1, 1);
    }
}
