import java.lang.reflect.Method;
import java.util.ArrayList;
import java.util.HashMap;
import java.util.List;
import java.util.Map;
import java.util.Random;

/** Long runs of drawn calls, each answer as the slow museum's; then calls with any numbers, none of which may throw. */
public final class LongRunsTest {
    private static final int RUNS = 150;
    private static final int CALLS = 300;

    /**
     * Each call but letter and museum with how its arguments are drawn: r a room, g a group, q a question, f a FIRST,
     * w an answer to write, m minutes, n minutes in thought, v doors, i an index of apart, l how many lots, z a seed,
     * a what comes to a row, c a count, 1 .. 5 a what up to that.
     */
    private static final String[] CALLS_TO_DRAW = {"door rr", "question q4", "group g5", "sheet gq", "opens rr",
        "put gr", "start gf", "write gqw", "minutes m", "behind gn3", "done g", "ended 1", "answer gq1", "full n2",
        "right n", "bestFirst g1", "apart i", "leave ", "tell n", "spreads gq", "missing nv", "worth q", "two gg",
        "newDoor ", "which gq1", "row a", "judge g", "clear ", "lots lz1", "image ", "on ", "count c"};
    private static final int[] WILD = {Integer.MIN_VALUE, Integer.MAX_VALUE, -1, 0, 1, 2, 7, 8, 10, 60, 61, 99, 100, 256};
    private static final Map<String, Method> FAST = methodsOf(GreenHorseUpstairs.class);
    private static final Map<String, Method> SLOW = methodsOf(SlowMuseum.class);

    private final Random random;
    private final GreenHorseUpstairs fast = new GreenHorseUpstairs();
    private final SlowMuseum slow = new SlowMuseum();
    private final List<String> calls = new ArrayList<>();
    private boolean asDue = true;

    private final boolean isFull;

    private LongRunsTest(long seed) {
        random = new Random(seed);
        isFull = seed % 3 == 0;
    }

    public static void main(String[] args) throws ReflectiveOperationException {
        Due.due("calls that are drawn", CALLS_TO_DRAW.length + 2, FAST.size());
        int runs = args.length > 0 ? Integer.parseInt(args[0]) : RUNS;
        for (int run = 0; run < runs; run++) {
            new LongRunsTest(run).run();
        }
        for (int run = 0; run < 20; run++) {
            new LongRunsTest(run).wild();
        }
        Due.finish();
    }

    private static Map<String, Method> methodsOf(Class<?> type) {
        Map<String, Method> methods = new HashMap<>();
        for (Method method : type.getDeclaredMethods()) {
            if ((method.getModifiers() & java.lang.reflect.Modifier.PRIVATE) == 0) {
                methods.put(method.getName(), method);
            }
        }
        return methods;
    }

    private static int answer(Map<String, Method> methods, Object of, String name, Object[] arguments)
            throws ReflectiveOperationException {
        return (int) methods.get(name).invoke(of, arguments);
    }

    private void run() throws ReflectiveOperationException {
        if (isFull) {
            tellBoth(asMuchAsThereMayBe());
        }
        text(20, true);
        while (calls.size() < CALLS && asDue) {
            int way = random.nextInt(12);
            if (way == 0) {
                rowOfAnswers();
            } else if (way == 1) {
                rowOfCounts();
            } else if (way == 2) {
                tellBoth(random.nextInt(3) == 0 ? spoilt(text(5, false)) : text(3, false));
            } else {
                askDrawn();
            }
        }
        for (int what = -1; what < 20 && asDue; what++) {
            ask("count", what);
        }
    }

    private int ask(String name, Object... arguments) throws ReflectiveOperationException {
        int got = answer(FAST, fast, name, arguments);
        int want = answer(SLOW, slow, name, arguments);
        calls.add(name + java.util.Arrays.toString(arguments));
        asDue &= got == want;
        Due.due(got == want ? name : String.join(" ", calls), got, want);
        return want;
    }

    private void askDrawn() throws ReflectiveOperationException {
        String[] call = CALLS_TO_DRAW[random.nextInt(CALLS_TO_DRAW.length)].split(" ", 2);
        Object[] arguments = new Object[call[1].length()];
        for (int i = 0; i < arguments.length; i++) {
            arguments[i] = drawn(call[1].charAt(i));
        }
        ask(call[0], arguments);
    }

    private int drawn(char what) {
        switch (what) {
            case 'r': return about(0, 6);
            case 'g': return random.nextInt(15) == 0 ? about(0, 5) : random.nextInt(Math.max(1, fast.count(1)));
            case 'q': return random.nextInt(15) == 0 ? about(0, 8) : random.nextInt(Math.max(1, fast.count(0)));
            case 'f': return about(0, 7);
            case 'w': return random.nextInt(3) == 0 ? about(0, 10) : 10;
            case 'm': return random.nextInt(8) == 0 ? about(1, 60) : about(1, 4);
            case 'n': return random.nextInt(3) == 0 ? about(0, 99) : random.nextInt(15);
            case 'v': return random.nextInt(4) == 0 ? about(0, 9) : random.nextInt(4);
            case 'i': return about(-1, 2);
            case 'l': return about(1, 20);
            case 'z': return random.nextInt();
            case 'a': return random.nextInt(4) == 0 ? about(0, 99) : random.nextInt(11);
            case 'c': return about(0, 17);
            default: return about(0, what - '0');
        }
    }

    private int about(int least, int most) {
        int way = random.nextInt(30);
        if (way == 0) {
            return least - 1;
        }
        return way == 1 ? most + 1 : least + random.nextInt(most - least + 1);
    }

    private void rowOfAnswers() throws ReflectiveOperationException {
        int group = drawn('g');
        ask("clear");
        for (int question = 0; question < fast.count(0); question++) {
            int answer = ask("answer", group, question, 0);
            ask("row", answer < 0 ? 10 : answer);
        }
        int question = drawn('q');
        ask("which", group, question, 0);
        ask("which", group, question, 1);
    }

    private void rowOfCounts() throws ReflectiveOperationException {
        int group = drawn('g');
        ask("clear");
        for (int n = 0; n < 12; n++) {
            int answers = ask("behind", group, n, 1);
            ask("row", random.nextInt(20) == 0 ? answers + 1 : answers);
        }
        ask("judge", group);
    }

    private void tellBoth(String text) throws ReflectiveOperationException {
        for (int i = 0; i < text.length(); i++) {
            ask("letter", (int) text.charAt(i));
        }
        ask("museum");
    }

    private char digit(int below) {
        return (char) ('0' + random.nextInt(Math.max(1, below)));
    }

    /** Statements with numbers that there are, mostly; the first ones are told at once, so that more of them fit. */
    private String text(int most, boolean atOnce) throws ReflectiveOperationException {
        StringBuilder text = new StringBuilder();
        int statements = 1 + random.nextInt(most);
        String heads = atOnce ? "dddqqggaw" : "dqgawm";
        for (int i = 0; i < statements && text.length() < 90; i++) {
            text.append(statement(heads.charAt(random.nextInt(heads.length()))));
            if (atOnce) {
                tellBoth(text.toString());
                text.setLength(0);
            }
        }
        return text.toString();
    }

    /** As many questions and groups as there may be: few runs would come to that by themselves. */
    private String asMuchAsThereMayBe() {
        StringBuilder text = new StringBuilder();
        for (int i = 0; i < 8; i++) {
            text.append(statement('q'));
        }
        for (int i = 0; i < 5; i++) {
            text.append(statement('g'));
        }
        return text.toString();
    }

    private String statement(char head) {
        int groups = fast.count(1);
        switch (head) {
            case 'd': return "d" + digit(7) + digit(7) + ";";
            case 'q': return "q" + "ldcmng".charAt(random.nextInt(6)) + digit(10) + digit(7) + digit(10) + ";";
            case 'g': return "g" + digit(10) + digit(10) + digit(8) + ";";
            case 'a': return "a" + digit(groups) + digit(7) + ";";
            case 'w': return "w" + digit(groups) + digit(fast.count(0)) + digit(10) + ";";
            default: return "m" + digit(2) + digit(10) + ";";
        }
    }

    private String spoilt(String text) {
        StringBuilder spoilt = new StringBuilder(text);
        for (int i = 0; i <= random.nextInt(2); i++) {
            int place = random.nextInt(spoilt.length() + 1);
            int way = random.nextInt(3);
            if (way == 0 && place < spoilt.length()) {
                spoilt.deleteCharAt(place);
            } else if (way == 1) {
                spoilt.insert(place, "dqgawm;07890lcn".charAt(random.nextInt(15)));
            } else {
                spoilt.setLength(place);
            }
        }
        return spoilt.toString();
    }

    private void wild() throws ReflectiveOperationException {
        for (char letter : "d01;d12;d03;ql513;qd924;qc001;qn505;g501;g290;g007;".toCharArray()) {
            fast.letter(letter);
        }
        Due.due("museum()", fast.museum(), 10);
        for (int i = 0; i < 500; i++) {
            String[] call = CALLS_TO_DRAW[random.nextInt(CALLS_TO_DRAW.length)].split(" ", 2);
            Object[] arguments = new Object[call[1].length()];
            for (int k = 0; k < arguments.length; k++) {
                int way = random.nextInt(3);
                arguments[k] = way == 0 ? random.nextInt() : way == 1 ? drawn(call[1].charAt(k))
                    : WILD[random.nextInt(WILD.length)];
            }
            answer(FAST, fast, call[0], arguments);
        }
        Due.due("wild calls: -5", fast.count(15), 0);
    }
}
