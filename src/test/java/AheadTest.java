/** Promises 13 to 18: what minutes to come bring, in thought. */
public final class AheadTest {
    /** Both walk (1), look or copy (2), walk (3), draw (4, 5). */
    private static final String PAIR = "d01;ql513;qd104;g550;g120;";
    private static final String CHAIN = "d01;d12;d23;d34;d45;d56;";

    public static void main(String[] args) {
        promise13();
        promise14();
        promise15();
        promise16();
        promise17();
        promise18();
        Due.finish();
    }

    private static void behind(GreenHorseUpstairs x, int group, int n, int at, int answers, int right, int copied) {
        String call = "behind(" + group + ", " + n + ", ";
        Due.due(call + "0)", x.behind(group, n, 0), at);
        Due.due(call + "1)", x.behind(group, n, 1), answers);
        Due.due(call + "2)", x.behind(group, n, 2), right);
        Due.due(call + "3)", x.behind(group, n, 3), copied);
    }

    private static void promise13() {
        GreenHorseUpstairs x = Due.told(PAIR);
        behind(x, 0, 0, 0, 0, 0, 0);
        behind(x, 0, 1, 1, 0, 0, 0);
        behind(x, 0, 2, 1, 1, 1, 0);
        behind(x, 1, 2, 1, 1, 1, 1);
        behind(x, 1, 3, 0, 1, 1, 1);
        behind(x, 1, 4, 0, 1, 1, 1);
        behind(x, 1, 5, 0, 2, 2, 1);
        behind(x, 0, 99, 0, 2, 2, 0);
        Due.due("nothing went by", x.count(3), 0);
        Due.due("nobody went", x.group(1, 3), 0);
        x.minutes(2);
        behind(x, 1, 0, 1, 1, 1, 0);
        behind(x, 1, 3, 0, 2, 2, 0);
        x.write(0, 1, 9);
        behind(x, 0, 0, 1, 2, 1, 0);
        Due.due("behind(2, 0, 0)", x.behind(2, 0, 0), -1);
        Due.due("behind(-1, -1, 4)", x.behind(-1, -1, 4), -1);
        Due.due("behind(0, -1, 4)", x.behind(0, -1, 4), -4);
        Due.due("behind(0, 100, 4)", x.behind(0, 100, 4), -6);
        Due.due("behind(0, 99, 4)", x.behind(0, 99, 4), -2);
        Due.due("behind(0, 0, -1)", x.behind(0, 0, -1), -2);
        Due.refusals("behind", x, 2, 2, 0, 1, 1);
    }

    /** Seven walks of one door and ninety minutes of drawing less what is told. */
    private static GreenHorseUpstairs hundred(String lastRooms) {
        StringBuilder text = new StringBuilder("qd960;qd900;qd960;qd950;");
        for (int i = 0; i < lastRooms.length(); i++) {
            text.append("qd9").append(lastRooms.charAt(i)).append("0;");
        }
        GreenHorseUpstairs x = Due.told(CHAIN);
        Due.due("questions", Due.tell(x, text.toString()), 8);
        Due.due("group", Due.tell(x, "g900;"), 1);
        return x;
    }

    private static void promise14() {
        GreenHorseUpstairs x = Due.told(PAIR);
        Due.due("done(0)", x.done(0), 5);
        Due.due("done(1)", x.done(1), 5);
        x.minutes(4);
        Due.due("done(1)", x.done(1), 1);
        x.minutes(1);
        Due.due("done(1)", x.done(1), 0);
        Due.due("done(2)", x.done(2), -1);
        Due.due("done(-1)", x.done(-1), -1);
        Due.refusals("done", x, 2, 0, 0, 0, 0);
        Due.due("no way", Due.told("ql010;g000;").done(0), -9);
        Due.due("no question", Due.told("g000;").done(0), 0);
        Due.due("99", hundred("5555").done(0), 99);
        Due.due("100", hundred("5554").done(0), -9);
        Due.due("all by then", hundred("5555").behind(0, 98, 1), 7);
    }

    private static void promise15() {
        GreenHorseUpstairs x = Due.told(PAIR);
        Due.due("ended(0)", x.ended(0), 0);
        Due.due("ended(1)", x.ended(1), 5);
        x.start(0, 1);
        Due.due("ended(0), the other way round", x.ended(0), 0);
        Due.due("ended(1), the other way round", x.ended(1), 5);
        x.put(1, 1);
        Due.due("ended(0), nearer", x.ended(0), 0);
        x.start(0, 0);
        Due.due("ended(0), nearer", x.ended(0), 1);
        Due.due("ended(1), nearer", x.ended(1), 5);
        x.put(0, 6);
        Due.due("ended(0), one lost", x.ended(0), 1);
        Due.due("ended(1), one lost", x.ended(1), -9);
        x.put(1, 5);
        Due.due("ended(0), both lost", x.ended(0), -9);
        Due.due("ended(2)", x.ended(2), -2);
        Due.due("ended(-1)", x.ended(-1), -2);
        Due.refusals("ended", x, 0, 2, 0, 0, 0);
        Due.due("nobody first", new GreenHorseUpstairs().ended(0), -9);
        Due.due("all of nobody", new GreenHorseUpstairs().ended(1), 0);
        Due.due("first at 99", hundred("5555").ended(0), 0);
        Due.due("all at 99", hundred("5555").ended(1), 99);
        Due.due("first at 100", hundred("5554").ended(0), -9);
        Due.due("all at 100", hundred("5554").ended(1), -9);
    }

    private static void promise16() {
        GreenHorseUpstairs x = Due.told(PAIR);
        Due.due("answer(0, 0, 0)", x.answer(0, 0, 0), 3);
        Due.due("answer(0, 0, 1)", x.answer(0, 0, 1), -9);
        Due.due("answer(1, 0, 0)", x.answer(1, 0, 0), 3);
        Due.due("answer(1, 0, 1)", x.answer(1, 0, 1), 0);
        Due.due("answer(1, 1, 0)", x.answer(1, 1, 0), 4);
        Due.due("answer(1, 1, 1)", x.answer(1, 1, 1), -9);
        x.minutes(2);
        Due.due("copied before these", x.answer(1, 0, 1), -9);
        Due.due("and there", x.answer(1, 0, 0), 3);
        x.put(0, 6);
        Due.due("never", x.answer(0, 1, 0), -9);
        Due.due("answer(2, 0, 0)", x.answer(2, 0, 0), -1);
        Due.due("answer(-1, 0, 2)", x.answer(-1, 0, 2), -1);
        Due.due("answer(0, 2, 2)", x.answer(0, 2, 2), -1);
        Due.due("answer(0, -1, 0)", x.answer(0, -1, 0), -1);
        Due.due("answer(0, 0, 2)", x.answer(0, 0, 2), -2);
        Due.due("answer(0, 0, -1)", x.answer(0, 0, -1), -2);
        Due.refusals("answer", x, 4, 2, 0, 0, 0);
        Due.due("from 2", Due.told("ql907;g030;g900;g000;a11;w204;").answer(0, 0, 1), 2);
        Due.due("at 99", hundred("5555").answer(0, 7, 0), 0);
        Due.due("at 100", hundred("5554").answer(0, 7, 0), -9);
    }

    private static void full(GreenHorseUpstairs x, int n, int most, int when, int where) {
        Due.due("full(" + n + ", 0)", x.full(n, 0), most);
        Due.due("full(" + n + ", 1)", x.full(n, 1), when);
        Due.due("full(" + n + ", 2)", x.full(n, 2), where);
    }

    private static void promise17() {
        GreenHorseUpstairs x = Due.told("d12;d23;d35;ql030;g900;g900;a02;a15;");
        full(x, 0, 1, 0, 2);
        full(x, 1, 2, 1, 3);
        full(x, 99, 2, 1, 3);
        x.put(0, 1);
        full(x, 1, 1, 0, 1);
        full(x, 2, 2, 2, 3);
        x.put(0, 5);
        full(x, 5, 2, 0, 5);
        full(Due.told("g000;g000;g000;g000;a16;a36;"), 9, 2, 0, 0);
        full(new GreenHorseUpstairs(), 99, 0, 0, 0);
        Due.due("full(-1, 3)", x.full(-1, 3), -4);
        Due.due("full(100, 3)", x.full(100, 3), -6);
        Due.due("full(99, 3)", x.full(99, 3), -2);
        Due.due("full(0, -1)", x.full(0, -1), -2);
        Due.refusals("full", x, 0, 2, 0, 1, 1);
    }

    private static void promise18() {
        GreenHorseUpstairs x = Due.told(PAIR);
        int[] due = {0, 0, 2, 2, 2, 4, 4};
        for (int n = 0; n < due.length; n++) {
            Due.due("right(" + n + ")", x.right(n), due[n]);
        }
        Due.due("right(99)", x.right(99), 4);
        x.write(0, 0, 4);
        Due.due("a false one, group 1 alone with it", x.right(99), 2);
        Due.due("a false one, copied", Due.told("ql903;ql004;g000;g000;w005;").right(99), 2);
        Due.due("right(-1)", x.right(-1), -4);
        Due.due("right(100)", x.right(100), -6);
        Due.refusals("right", x, 0, 0, 0, 1, 1);
    }
}
