/** Promises 28 to 31: what a row of numbers tells. */
public final class RowTest {
    public static void main(String[] args) {
        promise28();
        promise28Refusals();
        promise29();
        promise30();
        promise31();
        Due.finish();
    }

    private static void which(String text, int question, int[] row, int kinds, int wits) {
        GreenHorseUpstairs x = Due.told(text);
        for (int v : row) {
            x.row(v);
        }
        String call = "which(0, " + question + ", ";
        Due.due(call + "0) of " + text, x.which(0, question, 0), kinds);
        Due.due(call + "1) of " + text, x.which(0, question, 1), wits);
        Due.due("the ROW stays", x.count(6), row.length);
        Due.due("KIND stays", x.question(question, 0), Due.told(text).question(question, 0));
        Due.due("WIT stays", x.group(0, 1), Due.told(text).group(0, 1));
    }

    private static void promise28() {
        // alone, not tall enough, wit enough: WIT by all kinds but NUMBER and GUARD
        which("ql503;g460;", 0, new int[] {6}, 15, 64);
        which("ql503;g460;", 0, new int[] {3}, 48, 8);
        which("ql503;g460;", 0, new int[] {4}, 0, 16);
        which("qn503;g460;", 0, new int[] {3}, 48, 992);
        which("qn503;g440;", 0, new int[] {4}, 31, 31);
        which("ql503;g430;", 0, new int[] {4}, 16, 16);
        // tall enough, and another one there: COPY alone is copied
        which("qg503;g560;g000;w108;", 0, new int[] {8}, 4, 0);
        which("qg503;g560;g000;w108;", 0, new int[] {3}, 51, 1023);
        which("qm503;g460;g000;w108;", 0, new int[] {8}, 7, 256);
        which("qm503;g460;g000;w108;", 0, new int[] {6}, 8, 64);
        // 10 is none
        which("ql563;g460;", 0, new int[] {10}, 63, 1023);
        which("ql503;g460;", 0, new int[] {10}, 0, 0);
        which("ql563;g460;", 0, new int[] {11}, 0, 0);
        which("ql563;g460;", 0, new int[] {99}, 0, 0);
        // all of it is so
        which("ql503;ql061;g460;", 0, new int[] {6, 10}, 15, 64);
        which("ql503;ql061;g460;", 0, new int[] {6, 1}, 0, 0);
        which("ql503;qm001;g460;", 1, new int[] {6, 6}, 8, 64);
        which("ql503;qm001;g460;", 1, new int[] {6, 1}, 55, 0);
        which("ql503;qm001;g460;", 1, new int[] {1, 1}, 0, 2);
        // what is on the sheet already tells nothing of kinds
        which("ql503;g460;w009;", 0, new int[] {9}, 63, 1023);
    }

    private static void promise28Refusals() {
        GreenHorseUpstairs x = Due.told("ql003;ql003;g000;");
        Due.due("which(1, 0, 2)", x.which(1, 0, 2), -1);
        Due.due("which(-1, 0, 0)", x.which(-1, 0, 0), -1);
        Due.due("which(0, 2, 0)", x.which(0, 2, 0), -1);
        Due.due("which(0, -1, 0)", x.which(0, -1, 0), -1);
        Due.due("which(0, 0, 2)", x.which(0, 0, 2), -2);
        Due.due("which(0, 0, -1)", x.which(0, 0, -1), -2);
        Due.due("no ROW", x.which(0, 0, 0), -3);
        x.row(3);
        Due.due("ROW of 1", x.which(0, 0, 0), -3);
        x.row(3);
        Due.due("ROW of 2", x.which(0, 0, 0), 55);
        x.row(3);
        Due.due("ROW of 3", x.which(0, 0, 1), -3);
        Due.refusals("which", x, 4, 2, 3, 0, 0);
    }

    private static void promise29() {
        GreenHorseUpstairs x = new GreenHorseUpstairs();
        Due.due("row(-1)", x.row(-1), -4);
        Due.due("row(100)", x.row(100), -6);
        Due.due("row(least)", x.row(Integer.MIN_VALUE), -4);
        Due.due("row(most)", x.row(Integer.MAX_VALUE), -6);
        for (int i = 1; i <= 12; i++) {
            Due.due("row " + i, x.row(i % 2 == 0 ? 0 : 99), i);
            Due.due("in the ROW", x.count(6), i);
        }
        Due.due("row 13", x.row(5), -6);
        Due.due("row 13 below", x.row(-1), -4);
        Due.due("in the ROW", x.count(6), 12);
        Due.refusals("row", x, 0, 0, 0, 3, 3);
    }

    private static void judge(String text, int[] row, int want) {
        GreenHorseUpstairs x = Due.told(text);
        for (int v : row) {
            x.row(v);
        }
        Due.due("judge(0) of " + text, x.judge(0), want);
        Due.due("in the ROW", x.count(6), 0);
        Due.due("nothing went by", x.count(3), Due.told(text).count(3));
    }

    private static void promise30() {
        String text = "d01;ql513;qd104;g550;";
        judge(text, new int[] {0, 0, 1, 1, 1, 2, 2, 2, 2, 2, 2, 2}, -9);
        judge(text, new int[] {0, 0, 1, 1, 2, 2}, 4);
        judge(text, new int[] {0, 0, 1, 1, 1, 2, 2, 2, 2, 2, 2, 3}, 11);
        judge(text, new int[] {1}, 0);
        judge(text, new int[] {0, 1, 0}, 1);
        judge(text, new int[] {}, -9);
        judge("d01;ql513;qd104;g550;m02;", new int[] {1, 1, 1, 2}, -9);
        GreenHorseUpstairs x = Due.told(text);
        x.row(0);
        Due.due("judge(1)", x.judge(1), -1);
        Due.due("judge(-1)", x.judge(-1), -1);
        Due.due("it stays", x.count(6), 1);
        Due.refusals("judge", x, 2, 0, 0, 0, 0);
    }

    private static void promise31() {
        GreenHorseUpstairs x = new GreenHorseUpstairs();
        Due.due("clear() of none", x.clear(), 0);
        x.row(1);
        x.row(2);
        Due.due("clear()", x.clear(), 2);
        Due.due("in the ROW", x.count(6), 0);
        Due.due("clear() again", x.clear(), 0);
        Due.due("row anew", x.row(3), 1);
    }
}
