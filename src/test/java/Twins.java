import java.lang.reflect.Method;
import java.util.ArrayList;
import java.util.List;

/**
 * Objects with the same past, one of which is asked something more: what can be seen of them afterwards shows whether
 * that changed anything. What no call tells (the letters, the ROW's numbers, the image) is looked at by going on from
 * it: each of these takes twins of its own, since it changes them.
 */
final class Twins {
    /** 24 statements, so as many letters as there may be; each does what none of the others does. */
    private static final String LETTERS_96 = "d02;d03;d04;d05;d06;d13;d14;d15;d16;d24;d25;d26;"
        + "d35;d36;d46;d34;d45;d56;d12;a01;a12;a23;a34;a45;";

    /** Pasts that twins have. */
    enum Past { NEW, SOME, FULL }

    /** What is done with both before they are looked at. */
    private enum Then { NOTHING, MUSEUM, ON, JUDGE }

    private Twins() {
    }

    static GreenHorseUpstairs made(Past past) {
        switch (past) {
            case SOME:
                return some();
            case FULL:
                return full();
            default:
                return new GreenHorseUpstairs();
        }
    }

    /** Three questions, three groups, MINUTE 5, LOOKED 4 of group 0, an image of before, a ROW of 3, letters. */
    private static GreenHorseUpstairs some() {
        GreenHorseUpstairs x = Due.told("d01;d12;qd911;ql022;qc005;g570;g291;g722;w104;a21;m02;");
        x.image();
        Due.due("some", Due.tell(x, "d23;d01;w223;a14;m03;"), 5);
        fill(x, 3, "d34;ql123;");
        return x;
    }

    /** As much as there may be of all: questions, groups, minutes, numbers of the ROW, letters. */
    private static GreenHorseUpstairs full() {
        GreenHorseUpstairs x = Due.told("d01;qd911;ql021;qc031;qm041;qn951;qg061;qd912;ql963;");
        x.image();
        Due.due("full", Due.tell(x, "g570;g290;g000;g990;g457;w118;w216;w017;w330;w472;"), 10);
        for (int i = 0; i < 16; i++) {
            x.minutes(60);
        }
        x.minutes(39);
        fill(x, 12, LETTERS_96);
        return x;
    }

    /** A ROW of which each number is as judge wants it of group 0, so that any other one would be found; letters. */
    private static void fill(GreenHorseUpstairs x, int length, String letters) {
        for (int n = 0; n < length; n++) {
            x.row(x.behind(0, n, 1));
        }
        for (int i = 0; i < letters.length(); i++) {
            x.letter(letters.charAt(i));
        }
    }

    /** All that can be seen without changing it, but REFUSALS. */
    private static List<Integer> seen(GreenHorseUpstairs x) {
        List<Integer> seen = new ArrayList<>();
        for (int what = 0; what <= 7; what++) {
            seen.add(x.count(what));
        }
        for (int one = 0; one < 7; one++) {
            for (int other = 0; other < one; other++) {
                seen.add(x.door(one, other));
            }
        }
        int questions = x.count(0);
        for (int question = 0; question < questions; question++) {
            for (int what = 0; what < 5; what++) {
                seen.add(x.question(question, what));
            }
        }
        for (int group = 0; group < x.count(1); group++) {
            for (int what = 0; what < 6; what++) {
                seen.add(x.group(group, what));
            }
            for (int question = 0; question < questions; question++) {
                seen.add(x.sheet(group, question));
            }
        }
        return seen;
    }

    private static int[] refusals(GreenHorseUpstairs x) {
        int[] counts = new int[7];
        for (int number = 1; number <= 6; number++) {
            counts[number] = x.count(10 + number);
        }
        return counts;
    }

    static int ask(GreenHorseUpstairs x, String call, int... arguments) {
        Object[] boxed = new Object[arguments.length];
        for (int i = 0; i < arguments.length; i++) {
            boxed[i] = arguments[i];
        }
        try {
            for (Method method : GreenHorseUpstairs.class.getMethods()) {
                if (method.getName().equals(call) && method.getParameterCount() == arguments.length) {
                    return (int) method.invoke(x, boxed);
                }
            }
        } catch (ReflectiveOperationException thrown) {
            throw new IllegalStateException(call, thrown);
        }
        throw new IllegalArgumentException(call);
    }

    private static String told(Past past, String call, int... arguments) {
        StringBuilder told = new StringBuilder(past + ": " + call + "(");
        for (int i = 0; i < arguments.length; i++) {
            told.append(i == 0 ? "" : ", ").append(arguments[i]);
        }
        return told.append(")").toString();
    }

    /** A call that must be refused with a number, and must change nothing but how many of these there were. */
    static void refused(Past past, int number, String call, int... arguments) {
        String told = told(past, call, arguments);
        for (Then then : Then.values()) {
            GreenHorseUpstairs asked = made(past);
            GreenHorseUpstairs other = made(past);
            int due = call.equals("worth") ? 1000000000 - number : number;
            Due.due(told, ask(asked, call, arguments), due);
            int[] counts = refusals(asked);
            int[] before = refusals(other);
            for (int i = 1; i <= 6; i++) {
                Due.due(told + " counted as -" + i, counts[i] - before[i], i == -number ? 1 : 0);
            }
            same(told, then, asked, other);
        }
    }

    /** A text with a FAULT: nothing of it comes, it is no more, and no REFUSAL is counted. */
    static void fault(Past past, String text, int want) {
        for (Then then : Then.values()) {
            GreenHorseUpstairs asked = made(past);
            GreenHorseUpstairs other = made(past);
            withoutLetters(asked);
            withoutLetters(other);
            Due.due(past + ": museum() of " + text, Due.tell(asked, text), want);
            int[] counts = refusals(asked);
            int[] before = refusals(other);
            for (int i = 1; i <= 6; i++) {
                Due.due(text + " counted as -" + i, counts[i], before[i]);
            }
            same(past + ": " + text, then, asked, other);
        }
    }

    /** A letter that begins nothing makes all letters before it no more, and nothing else; a full text has its own. */
    private static void withoutLetters(GreenHorseUpstairs x) {
        if (x.count(7) < 96) {
            x.letter(' ');
        }
        x.museum();
        Due.due("letters", x.count(7), 0);
    }

    private static void same(String told, Then then, GreenHorseUpstairs asked, GreenHorseUpstairs other) {
        Due.due(told + ", then " + then, goOn(then, asked), goOn(then, other));
        List<Integer> want = seen(other);
        List<Integer> got = seen(asked);
        Due.isTrue(told + ", then " + then + ": " + got + " is as " + want, got.equals(want));
    }

    private static int goOn(Then then, GreenHorseUpstairs x) {
        switch (then) {
            case MUSEUM:
                return x.museum();
            case ON:
                return x.on();
            case JUDGE:
                return x.count(1) == 0 ? x.clear() : x.judge(0);
            default:
                return 0;
        }
    }
}
