/** Promises 32 to 35: museums by lot, the image, counts. */
public final class LotsTest {
    public static void main(String[] args) {
        promise32();
        promise32Copied();
        promise32CopiedByTheFirst();
        promise32Refusals();
        promise33();
        promise34();
        promise35();
        Due.finish();
    }

    /** Seed 0 draws, for the first four: room 5, first 1; room 6, first 3. */
    private static void promise32() {
        Due.due("one in room 5", Due.told("ql051;g900;").lots(1, 0, 0), 1);
        Due.due("one not in room 6", Due.told("ql061;g900;").lots(1, 0, 0), 0);
        Due.due("another in room 6", Due.told("ql061;g900;g900;").lots(1, 0, 0), 1);
        Due.due("the second museum in room 6", Due.told("ql061;g900;").lots(2, 0, 0), 1);
        Due.due("the second museum, not the first", Due.told("ql051;g900;").lots(2, 0, 0), 1);
        // three of four draws are done, from FIRST on
        Due.due("FIRST is 1", Due.told("qd952;qd951;qd952;qd952;g010;").lots(1, 0, 0), 1);
        Due.due("FIRST is not 2", Due.told("qd951;qd952;qd952;qd952;g010;").lots(1, 0, 0), 0);
        Due.due("30 minutes, not 31", Due.told("qd851;qd951;qd951;qd951;g910;").lots(1, 0, 0), 3);
        // LOOKED stays: the draw of 10 minutes is done in the first
        GreenHorseUpstairs x = Due.told("qd851;qd951;qd951;qd951;g901;a05;m09;");
        Due.due("LOOKED", x.group(0, 4), 9);
        Due.due("LOOKED stays", x.lots(1, 0, 0), 4);
        Due.due("AT stays", x.group(0, 3), 5);
        Due.due("FIRST stays", x.group(0, 2), 1);
        Due.due("minute", x.count(3), 9);
        Due.due("nobody", new GreenHorseUpstairs().lots(20, 7, 0), 0);
        // what is on the sheets is right in each of them
        Due.due("sheets", Due.told("qm001;qm005;g900;g900;w001;w101;w115;w019;").lots(20, 99, 0), 60);
    }

    /** The same, drawn here once more: who is in the room of the only question has or copies an answer. */
    private static void promise32Copied() {
        int[] seeds = {0, 1, 7, -1, Integer.MIN_VALUE, Integer.MAX_VALUE, 123456789};
        for (int seed : seeds) {
            long z = seed;
            int right = 0;
            int copied = 0;
            for (int museum = 0; museum < 20; museum++) {
                long[] drawn = new long[6];
                for (int i = 0; i < 6; i++) {
                    z = (z * 1664525L + 1013904223L) & 0xffffffffL;
                    drawn[i] = (z & 0x7fffffffL) / 256 % (i % 2 == 0 ? 7 : 8);
                }
                boolean tallThere = drawn[0] == 3;
                right += tallThere ? 1 : 0;
                for (int i = 2; i < 6; i += 2) {
                    right += drawn[i] == 3 && tallThere ? 1 : 0;
                    copied += drawn[i] == 3 && (tallThere || i == 4 && drawn[2] == 3) ? 1 : 0;
                }
            }
            GreenHorseUpstairs x = Due.told("ql932;g900;g010;g010;");
            Due.due("lots(20, " + seed + ", 0)", x.lots(20, seed, 0), right);
            Due.due("lots(20, " + seed + ", 1)", x.lots(20, seed, 1), copied);
        }
    }

    /** Group 0 is there, and so is group 1 with its answer: copied in the first minute. */
    private static void promise32CopiedByTheFirst() {
        int due = 0;
        long z = 5;
        for (int museum = 0; museum < 20; museum++) {
            long[] drawn = new long[4];
            for (int i = 0; i < 4; i++) {
                z = (z * 1664525L + 1013904223L) & 0xffffffffL;
                drawn[i] = (z & 0x7fffffffL) / 256 % (i % 2 == 0 ? 7 : 8);
            }
            due += drawn[0] == drawn[2] ? 1 : 0;
        }
        int copied = 0;
        for (int room = 0; room < 7; room++) {
            copied += Due.told("ql9" + room + "2;g010;g900;w105;").lots(20, 5, 1);
        }
        Due.isTrue("some are copied", due > 0);
        Due.due("copied by group 0, of all rooms", copied, due);
    }

    private static void promise32Refusals() {
        GreenHorseUpstairs x = Due.told("ql051;g900;");
        Due.due("lots(0, 0, 2)", x.lots(0, 0, 2), -4);
        Due.due("lots(least, 0, 0)", x.lots(Integer.MIN_VALUE, 0, 0), -4);
        Due.due("lots(21, 0, 2)", x.lots(21, 0, 2), -6);
        Due.due("lots(20, 0, 2)", x.lots(20, 0, 2), -2);
        Due.due("lots(1, 0, -1)", x.lots(1, 0, -1), -2);
        Due.refusals("lots", x, 0, 2, 0, 2, 1);
    }

    private static void promise33() {
        GreenHorseUpstairs x = Due.told("d01;qd903;g900;m05;");
        Due.due("image()", x.image(), 5);
        x.minutes(7);
        Due.due("image() again", x.image(), 12);
        x.minutes(1);
        Due.due("on() from the later one", x.on(), 12);
        Due.due("image() of a new object", new GreenHorseUpstairs().image(), 0);
    }

    private static void promise34() {
        GreenHorseUpstairs x = Due.told("d01;qd903;g123;g456;a02;w109;");
        Due.due("on() without an image", x.on(), -3);
        x.minutes(4);
        x.put(1, 2);
        Due.due("image()", x.image(), 4);
        Due.due("told", Due.tell(x, "d01;d12;ql767;"), 3);
        Due.due("told", Due.tell(x, "g997;"), 1);
        x.start(0, 0);
        x.put(0, 5);
        x.write(1, 0, 10);
        x.write(0, 0, 4);
        x.row(1);
        x.row(2);
        x.letter('d');
        x.row(100);
        x.minutes(3);
        Due.due("on()", x.on(), 4);
        Due.due("minute", x.count(3), 4);
        Due.due("questions", x.count(0), 1);
        Due.due("groups", x.count(1), 2);
        Due.due("doors", x.count(2), 1);
        Due.due("door(0, 1)", x.door(0, 1), 1);
        Due.due("door(1, 2)", x.door(1, 2), -9);
        Due.due("group(0, 2)", x.group(0, 2), 3);
        Due.due("group(0, 3)", x.group(0, 3), 2);
        Due.due("group(1, 3)", x.group(1, 3), 2);
        Due.due("sheet(0, 0)", x.sheet(0, 0), -9);
        Due.due("sheet(1, 0)", x.sheet(1, 0), 9);
        Due.due("the ROW is as now", x.count(6), 2);
        Due.due("letters are as now", x.count(7), 1);
        Due.refusals("on", x, 0, 0, 1, 0, 1);
        // the image is there as often as it is asked for, and what comes anew is without answers
        x.museum();
        Due.due("told", Due.tell(x, "ql000;g000;"), 2);
        Due.due("sheet(0, 1)", x.sheet(0, 1), -9);
        Due.due("sheet(2, 0)", x.sheet(2, 0), -9);
        Due.due("group(2, 3)", x.group(2, 3), 0);
        Due.due("group(2, 4)", x.group(2, 4), 0);
        Due.due("on() again", x.on(), 4);
        Due.due("questions", x.count(0), 1);
        looked();
        newOne();
    }

    private static void looked() {
        GreenHorseUpstairs x = Due.told("qd903;g900;m04;");
        x.image();
        x.minutes(3);
        x.on();
        Due.due("LOOKED", x.group(0, 4), 4);
        Due.due("done", x.done(0), 6);
    }

    private static void newOne() {
        GreenHorseUpstairs x = new GreenHorseUpstairs();
        Due.due("image() of nothing", x.image(), 0);
        Due.due("told", Due.tell(x, "d01;qd903;g900;g900;a13;w005;w106;m09;"), 8);
        Due.due("on() of nothing", x.on(), 0);
        Due.due("told", Due.tell(x, "qd903;g900;g900;"), 3);
        Due.due("AT", x.group(1, 3), 0);
        Due.due("LOOKED", x.group(0, 4), 0);
        Due.due("answers", x.count(4), 0);
        Due.due("doors", x.count(2), 0);
    }

    private static void promise35() {
        GreenHorseUpstairs x = Due.told("d01;d12;ql003;ql004;ql005;g900;g900;w003;w019;w104;m01;");
        x.row(5);
        x.letter('d');
        x.letter('0');
        int[] due = {3, 2, 2, 1, 5, 3, 1, 2};
        for (int what = 0; what < due.length; what++) {
            Due.due("count(" + what + ")", x.count(what), due[what]);
        }
        int[] none = {Integer.MIN_VALUE, -1, 8, 9, 10, 17, 18, Integer.MAX_VALUE};
        for (int what : none) {
            Due.due("count(" + what + ")", x.count(what), -9);
        }
        Due.refusals("count", x, 0, 0, 0, 0, 0);
        x.door(7, 7);
        x.ended(5);
        x.ended(6);
        x.on();
        x.on();
        x.on();
        x.minutes(0);
        x.minutes(0);
        x.minutes(0);
        x.minutes(0);
        for (int i = 0; i < 6; i++) {
            x.minutes(61);
        }
        Due.refusals("count", x, 1, 2, 3, 4, 6);
    }
}
