/** Promises 1 to 3: a new object, letters, a museum told in them. */
public final class ToldTest {
    public static void main(String[] args) {
        promise1();
        promise2();
        promise3Forms();
        promise3Faults();
        promise3Effects();
        Due.finish();
    }

    private static void promise1() {
        GreenHorseUpstairs x = new GreenHorseUpstairs();
        for (int what = 0; what <= 7; what++) {
            Due.due("new: count(" + what + ")", x.count(what), 0);
        }
        for (int what = 11; what <= 16; what++) {
            Due.due("new: count(" + what + ")", x.count(what), 0);
        }
        for (int one = 0; one < 7; one++) {
            for (int other = 0; other < 7; other++) {
                Due.due("new: door(" + one + ", " + other + ")", x.door(one, other), one == other ? 0 : -9);
            }
        }
        Due.due("new: question(0, 0)", x.question(0, 0), -1);
        Due.due("new: group(0, 0)", x.group(0, 0), -1);
        Due.due("new: on()", x.on(), -3);
    }

    private static void promise2() {
        GreenHorseUpstairs x = new GreenHorseUpstairs();
        Due.due("letter(-1)", x.letter(-1), -4);
        Due.due("letter(least)", x.letter(Integer.MIN_VALUE), -4);
        Due.due("letter(256)", x.letter(256), -6);
        Due.due("letter(most)", x.letter(Integer.MAX_VALUE), -6);
        Due.due("letter(0)", x.letter(0), 1);
        Due.due("letter(255)", x.letter(255), 2);
        for (int i = 3; i <= 96; i++) {
            Due.due("letter " + i, x.letter('d'), i);
        }
        Due.due("letter 97", x.letter('d'), -6);
        Due.due("letter 97 below", x.letter(-5), -4);
        Due.due("letter 97 above", x.letter(256), -6);
        Due.due("letters", x.count(7), 96);
        Due.refusals("letters", x, 0, 0, 0, 3, 4);
        Due.due("museum of 0", x.museum(), -1000);
        Due.due("letters behind", x.count(7), 0);
        Due.due("letter anew", x.letter('d'), 1);
    }

    private static void fault(String text, int want) {
        GreenHorseUpstairs x = new GreenHorseUpstairs();
        Due.due("museum() of \"" + text + "\"", Due.tell(x, text), want);
        for (int what = 0; what <= 7; what++) {
            Due.due("nothing of " + text + ": count(" + what + ")", x.count(what), 0);
        }
        Due.refusals("fault " + text, x, 0, 0, 0, 0, 0);
    }

    private static void promise3Forms() {
        fault("", -1000);
        fault("x", -1000);
        fault(";", -1000);
        fault("d", -1001);
        fault("d0", -1002);
        fault("d01", -1003);
        fault("d01x", -1003);
        fault("d012;", -1003);
        fault("d0;", -1002);
        fault("dx1;", -1001);
        fault("d/1;", -1001);
        fault("d:1;", -1001);
        fault("d01; ", -1004);
        fault("d01;;", -1004);
        fault("d01;q", -1005);
        fault("q0000;", -1001);
        fault("qx000;", -1001);
        fault("qL000;", -1001);
        fault("ql", -1002);
        fault("ql00;", -1004);
        fault("ql0000", -1005);
        fault("g000", -1004);
        fault("g00;", -1003);
        fault("g0000;", -1004);
        fault("a0;", -1002);
        fault("a000;", -1003);
        fault("w00;", -1003);
        fault("w0000;", -1004);
        fault("m1;", -1002);
        fault("m100;", -1003);
        fault("D01;", -1000);
        String all = "d01;d12;d23;d34;d45;d56;d01;d12;d23;d34;d45;d56;d01;d12;d23;d34;d45;d56;d01;d12;d23;d34;d45;d56";
        fault(all, -1095);
        // a fault of the first kind goes before one of the second that stands ahead of it
        fault("d00;x", -1004);
        fault("m99;d0", -1006);
    }

    private static void promise3Faults() {
        fault("d00;", -2000);
        fault("d07;", -2000);
        fault("d70;", -2000);
        fault("d99;", -2000);
        fault("d01;d66;", -2004);
        fault("ql070;", -2000);
        fault("ql099;", -2000);
        fault("g008;", -2000);
        fault("g009;", -2000);
        fault("a00;", -2000);
        fault("g000;a10;", -2005);
        fault("g000;a07;", -2005);
        fault("a00;g000;", -2000);
        fault("w000;", -2000);
        fault("g000;w000;", -2005);
        fault("ql000;w000;", -2006);
        fault("ql000;g000;w010;", -2011);
        fault("ql000;g000;w100;", -2011);
        fault("m00;", -2000);
        fault("m61;", -2000);
        fault("m99;", -2000);
        fault("m60;m61;d00;", -2004);
        fault("g000;g000;g000;g000;g000;g000;", -2025);
        fault("ql000;ql000;ql000;ql000;ql000;ql000;ql000;ql000;ql000;", -2048);
        String minutes = "m60;m60;m60;m60;m60;m60;m60;m60;m60;m60;m60;m60;m60;m60;m60;m60;";
        fault(minutes + "m40;", -2064);
        Due.due("999", Due.told(minutes + "m39;").count(3), 999);
        GreenHorseUpstairs late = Due.told(minutes + "m39;");
        Due.due("m01 at 999", Due.tell(late, "d01;m01;"), -2004);
        Due.due("no door with a fault", late.count(2), 0);
    }

    private static void promise3Effects() {
        GreenHorseUpstairs x = Due.told("d01;d12;d10;ql017;qd345;g123;g987;a16;w019;m01;");
        Due.due("a door told again", x.door(0, 1), -9);
        Due.due("doors", x.count(2), 1);
        Due.due("question(1, 0)", x.question(1, 0), 1);
        Due.due("question(1, 1)", x.question(1, 1), 3);
        Due.due("question(1, 2)", x.question(1, 2), 4);
        Due.due("question(1, 3)", x.question(1, 3), 5);
        Due.due("group(1, 0)", x.group(1, 0), 9);
        Due.due("group(1, 1)", x.group(1, 1), 8);
        Due.due("group(1, 2)", x.group(1, 2), 7);
        Due.due("group(1, 3)", x.group(1, 3), 6);
        Due.due("group(0, 3)", x.group(0, 3), 0);
        Due.due("sheet(0, 1)", x.sheet(0, 1), 9);
        Due.due("sheet(0, 0)", x.sheet(0, 0), -9);
        Due.due("minute", x.count(3), 1);
        Due.due("letters", x.count(7), 0);
        // a second museum comes to the first; a fault in a third takes all of the third back
        Due.due("more", Due.tell(x, "qg000;g111;w220;"), 3);
        Due.due("questions", x.count(0), 3);
        Due.due("groups", x.count(1), 3);
        Due.due("sheet(2, 2)", x.sheet(2, 2), 0);
        Due.due("fault", Due.tell(x, "d01;d56;w005;w218;a13;m05;ql000;g000;w000;w890;"), -2042);
        Due.due("doors", x.count(2), 1);
        Due.due("door(5, 6)", x.door(5, 6), -9);
        Due.due("questions", x.count(0), 3);
        Due.due("groups", x.count(1), 3);
        Due.due("sheet(0, 0)", x.sheet(0, 0), -9);
        Due.due("sheet(2, 1)", x.sheet(2, 1), -9);
        Due.due("group(1, 3)", x.group(1, 3), 6);
        Due.due("minute", x.count(3), 1);
        Due.due("a new group's sheet", Due.tell(x, "g000;ql000;"), 2);
        Due.due("sheet(3, 3)", x.sheet(3, 3), -9);
        Due.refusals("museum", x, 0, 0, 0, 0, 0);
        told24();
    }

    private static void told24() {
        Due.due("doors of 96 letters", Due.told(
            "d01;d12;d23;d34;d45;d56;d02;d03;d04;d05;d06;d13;d14;d15;d16;d24;d25;d26;d35;d36;d46;m10;m20;m30;")
            .count(2), 21);
        // "a" makes LOOKED 0, at the same room too; "w" writes over what there is
        GreenHorseUpstairs x = Due.told("qd900;g000;m04;w001;w002;");
        Due.due("LOOKED", x.group(0, 4), 4);
        Due.due("written over", x.sheet(0, 0), 2);
        Due.due("there", Due.tell(x, "a00;"), 1);
        Due.due("LOOKED behind a", x.group(0, 4), 0);
    }
}
