/** Promise 12 and the terms behind it: what a minute does, and the kinds of questions. */
public final class MinuteTest {
    public static void main(String[] args) {
        promise12();
        walks();
        looks();
        draws();
        copies();
        movedNumberGuard();
        order();
        Due.finish();
    }

    private static void promise12() {
        GreenHorseUpstairs x = Due.told("ql003;qm904;g940;g900;");
        Due.due("minutes(1)", x.minutes(1), 2);
        Due.due("minutes(2)", x.minutes(2), 3);
        Due.due("sheet(1, 1)", x.sheet(1, 1), 0);
        Due.due("minute", x.count(3), 3);
        Due.due("minutes(0)", x.minutes(0), -4);
        Due.due("minutes(-1)", x.minutes(-1), -4);
        Due.due("minutes(least)", x.minutes(Integer.MIN_VALUE), -4);
        Due.due("minutes(61)", x.minutes(61), -6);
        Due.due("minutes(most)", x.minutes(Integer.MAX_VALUE), -6);
        Due.due("minute", x.count(3), 3);
        for (int i = 0; i < 16; i++) {
            Due.due("minutes(60)", x.minutes(60), 3);
        }
        Due.due("minutes(37) at 963", x.minutes(37), -6);
        Due.due("minutes(36) at 963", x.minutes(36), 3);
        Due.due("minutes(1) at 999", x.minutes(1), -6);
        Due.due("minute", x.count(3), 999);
        Due.due("in thought it goes on", x.right(99), 3);
        Due.refusals("minutes", x, 0, 0, 0, 3, 4);
    }

    private static void walks() {
        GreenHorseUpstairs x = Due.told("d02;d01;d13;d23;d34;ql045;g900;");
        x.minutes(1);
        Due.due("by the least room", x.group(0, 3), 1);
        x.minutes(1);
        Due.due("on", x.group(0, 3), 3);
        x.minutes(1);
        Due.due("there", x.group(0, 3), 4);
        Due.due("not yet", x.sheet(0, 0), -9);
        Due.due("now", x.minutes(1), 1);
        Due.due("there it stays", x.minutes(9), 1);
        Due.due("there", x.group(0, 3), 4);
        // fewest doors go before the least room
        GreenHorseUpstairs y = Due.told("d01;d12;d23;d06;d63;ql035;g900;");
        y.minutes(1);
        Due.due("by the fewest doors", y.group(0, 3), 6);
        // LOOKED is 0 with each walk, and if there is no way; who has no question keeps it
        GreenHorseUpstairs z = Due.told("qd900;qd910;g900;g900;m03;");
        z.start(0, 1);
        z.write(1, 0, 0);
        z.write(1, 1, 0);
        z.minutes(1);
        Due.due("no way: there", z.group(0, 3), 0);
        Due.due("no way: LOOKED", z.group(0, 4), 0);
        Due.due("no question: LOOKED", z.group(1, 4), 3);
        z.start(0, 0);
        z.minutes(2);
        Due.due("LOOKED", z.group(0, 4), 2);
        z.start(0, 1);
        z.opens(0, 1);
        z.minutes(1);
        Due.due("walked", z.group(0, 3), 1);
        Due.due("walked: LOOKED", z.group(0, 4), 0);
        // LOOKED goes on from one question to another in the room: as many minutes or more
        GreenHorseUpstairs w = Due.told("qd902;ql003;g901;w003;m05;");
        Due.due("written", w.sheet(0, 1), 3);
        w.write(0, 0, 10);
        w.minutes(4);
        w.write(0, 1, 10);
        w.start(0, 1);
        Due.due("LOOKED", w.group(0, 4), 4);
        w.minutes(1);
        Due.due("or more", w.sheet(0, 1), 3);
        Due.due("LOOKED", w.group(0, 4), 0);
    }

    private static void sheet(String text, int group, int want) {
        Due.due("sheet(" + group + ", 0) of " + text, Due.told(text).sheet(group, 0), want);
    }

    private static void looks() {
        sheet("ql507;g500;m01;", 0, 7);
        sheet("ql507;g600;m01;", 0, 7);
        sheet("ql507;g430;m01;", 0, 3);
        sheet("ql507;g500;g430;m01;", 1, 7);
        sheet("ql507;g430;g500;m01;", 0, 3);
        sheet("ql507;g430;g500;w102;m01;", 0, 2);
        sheet("ql507;g430;g000;g000;w108;w202;m01;", 0, 8);
        sheet("ql507;g000;g000;g430;w008;w102;m01;", 2, 8);
        sheet("ql507;g430;g500;w102;a11;m01;", 0, 3);
        sheet("ql507;g500;g000;w102;m01;", 0, 7);
        GreenHorseUpstairs x = Due.told("d01;ql517;g430;g500;w102;a11;m01;");
        Due.due("walking", x.sheet(0, 0), -9);
        x.minutes(1);
        Due.due("in the question's room", x.sheet(0, 0), 2);
    }

    private static void draws() {
        sheet("qd207;g200;m02;", 0, -9);
        sheet("qd207;g200;m03;", 0, 7);
        sheet("qd007;g000;m01;", 0, 7);
        sheet("qd907;g930;m09;", 0, -9);
        sheet("qd907;g930;m10;", 0, 7);
        sheet("qd307;g230;m03;", 0, -9);
        sheet("qd307;g230;m04;", 0, 3);
        sheet("qd307;g230;g000;w105;m04;", 0, 5);
        sheet("qd307;g330;g000;w105;m04;", 0, 7);
        Due.due("LOOKED", Due.told("qd207;g200;m02;").group(0, 4), 2);
        Due.due("LOOKED", Due.told("qd207;g200;m03;").group(0, 4), 0);
    }

    private static void copies() {
        sheet("qc507;g500;m01;", 0, 7);
        sheet("qc507;g430;m01;", 0, 3);
        sheet("qc507;g500;g000;w102;m01;", 0, 2);
        sheet("qc507;g430;g000;w102;m01;", 0, 2);
        sheet("qc507;g500;g000;w102;a16;m01;", 0, 7);
        sheet("qc507;g900;g900;g900;w104;w203;m01;", 0, 4);
        sheet("qc507;g430;g900;m01;", 1, 3);
        sheet("qc907;g900;m01;", 0, 7);
    }

    private static void movedNumberGuard() {
        sheet("qm507;g940;m01;", 0, -9);
        sheet("qm507;g940;m02;", 0, 4);
        sheet("qm507;g040;g000;w102;m02;", 0, 4);
        sheet("qn307;g030;m03;", 0, -9);
        sheet("qn307;g030;m04;", 0, 7);
        sheet("qn307;g020;m04;", 0, 8);
        sheet("qn309;g020;m04;", 0, 0);
        sheet("qn309;g930;m04;", 0, 9);
        sheet("qn307;g020;g000;w102;m04;", 0, 8);
        sheet("qg907;g000;m02;", 0, -9);
        sheet("qg907;g000;m03;", 0, 7);
        sheet("qg907;g000;g000;w102;m03;", 0, 7);
    }

    private static void order() {
        // group 0 has left when group 1 looks for a neighbour; group 0 looks while group 1 is still there
        GreenHorseUpstairs x = Due.told("d01;ql907;ql917;g030;g040;w005;m01;");
        Due.due("left", x.group(0, 3), 1);
        Due.due("alone", x.sheet(1, 0), 4);
        GreenHorseUpstairs y = Due.told("d01;ql907;ql917;g030;g040;w105;m01;");
        Due.due("leaves", y.group(1, 3), 1);
        Due.due("not alone", y.sheet(0, 0), 5);
        // come in and seen in the same minute
        GreenHorseUpstairs z = Due.told("d01;ql907;ql917;g000;g040;w005;a11;w100;m01;");
        Due.due("came", z.group(0, 3), 1);
        Due.due("copied nothing", z.sheet(1, 1), 4);
        GreenHorseUpstairs w = Due.told("d01;ql907;qd914;g000;g040;w013;a11;w100;m10;");
        Due.due("came", w.sheet(0, 0), 0);
    }
}
