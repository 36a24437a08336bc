import java.util.ArrayDeque;
import java.util.ArrayList;
import java.util.Deque;
import java.util.HashMap;
import java.util.List;
import java.util.Map;
import java.util.function.Consumer;
import java.util.function.ToIntFunction;
import java.util.regex.Matcher;
import java.util.regex.Pattern;

/**
 * The document once more, in another way and as slowly as it likes: kinds are classes under one another, each thought
 * is a new copy, ways are searched anew. Only the tests use it, to look at long runs of calls.
 */
final class SlowMuseum {
    private static final int NONE = -9;

    private State now = new State();
    private State image = null;
    private String letters = "";
    private List<Integer> row = new ArrayList<>();
    private final Map<Integer, Integer> refused = new HashMap<>();

    /** A LOOK, and what the other kinds have from it. */
    private static class Look {
        int minutes(Question q) {
            return 1;
        }

        Integer copied(State s, Group g, Question q) {
            return g.tall >= q.figure ? null : neighbour(s, g, q);
        }

        int own(Group g, Question q) {
            return g.tall >= q.figure ? q.truth : g.wit;
        }

        final Integer neighbour(State s, Group g, Question q) {
            for (Group other : s.groups) {
                if (other != g && other.at == q.room && other.sheet.containsKey(q.number)) {
                    return other.number;
                }
            }
            return null;
        }
    }

    private static class Draw extends Look {
        @Override
        int minutes(Question q) {
            return super.minutes(q) + q.figure;
        }
    }

    private static class Copy extends Look {
        @Override
        Integer copied(State s, Group g, Question q) {
            return neighbour(s, g, q);
        }
    }

    private static final class Moved extends Look {
        @Override
        int minutes(Question q) {
            return 2;
        }

        @Override
        Integer copied(State s, Group g, Question q) {
            return null;
        }

        @Override
        int own(Group g, Question q) {
            return g.wit;
        }
    }

    private static final class Number extends Draw {
        @Override
        Integer copied(State s, Group g, Question q) {
            return null;
        }

        @Override
        int own(Group g, Question q) {
            return g.wit >= q.figure ? q.truth : q.truth == 9 ? 0 : q.truth + 1;
        }
    }

    private static final class Guard extends Copy {
        @Override
        int minutes(Question q) {
            return 3;
        }

        @Override
        Integer copied(State s, Group g, Question q) {
            return null;
        }

        @Override
        int own(Group g, Question q) {
            return q.truth;
        }
    }

    private static final Look[] KINDS = {new Look(), new Draw(), new Copy(), new Moved(), new Number(), new Guard()};

    private static final class Question {
        int number;
        int kind;
        int figure;
        int room;
        int truth;

        int minutes() {
            return KINDS[kind].minutes(this);
        }
    }

    private static final class Group {
        int number;
        int tall;
        int wit;
        int first;
        int at;
        int looked;
        Map<Integer, Integer> sheet = new HashMap<>();
        Map<Integer, Integer> sources = new HashMap<>();
    }

    private static final class State {
        boolean[][] doors = new boolean[7][7];
        List<Question> questions = new ArrayList<>();
        List<Group> groups = new ArrayList<>();
        int minute = 0;

        State copy() {
            State s = new State();
            for (int i = 0; i < 7; i++) {
                s.doors[i] = doors[i].clone();
            }
            for (Question q : questions) {
                Question c = new Question();
                c.number = q.number;
                c.kind = q.kind;
                c.figure = q.figure;
                c.room = q.room;
                c.truth = q.truth;
                s.questions.add(c);
            }
            for (Group g : groups) {
                Group c = new Group();
                c.number = g.number;
                c.tall = g.tall;
                c.wit = g.wit;
                c.first = g.first;
                c.at = g.at;
                c.looked = g.looked;
                c.sheet.putAll(g.sheet);
                s.groups.add(c);
            }
            s.minute = minute;
            return s;
        }

        void turn(int one, int other) {
            doors[one][other] = !doors[one][other];
            doors[other][one] = doors[one][other];
        }

        int distance(int from, int to) {
            int[] far = new int[7];
            java.util.Arrays.fill(far, NONE);
            far[from] = 0;
            Deque<Integer> open = new ArrayDeque<>();
            open.add(from);
            while (!open.isEmpty()) {
                int room = open.remove();
                for (int next = 0; next < 7; next++) {
                    if (doors[room][next] && far[next] == NONE) {
                        far[next] = far[room] + 1;
                        open.add(next);
                    }
                }
            }
            return far[to];
        }

        Question next(Group g) {
            int size = questions.size();
            for (int i = 0; i < size; i++) {
                Question q = questions.get((g.first % size + i) % size);
                if (!g.sheet.containsKey(q.number)) {
                    return q;
                }
            }
            return null;
        }

        State pass(int n) {
            for (int i = 0; i < n; i++) {
                minute++;
                groups.forEach(this::step);
            }
            return this;
        }

        private void step(Group g) {
            Question q = next(g);
            if (q == null) {
                return;
            }
            if (g.at != q.room) {
                int way = distance(g.at, q.room);
                for (int room = 6; room >= 0 && way > 0; room--) {
                    if (doors[g.at][room] && distance(room, q.room) == way - 1) {
                        way = -room;
                        for (int less = 0; less < room; less++) {
                            if (doors[g.at][less] && distance(less, q.room) == distance(room, q.room)) {
                                way = -less;
                                break;
                            }
                        }
                        g.at = -way;
                        break;
                    }
                }
                g.looked = 0;
                return;
            }
            g.looked++;
            if (g.looked < q.minutes()) {
                return;
            }
            g.looked = 0;
            Integer from = KINDS[q.kind].copied(this, g, q);
            if (from != null) {
                g.sources.put(q.number, from);
                g.sheet.put(q.number, groups.get(from).sheet.get(q.number));
            } else {
                g.sheet.put(q.number, KINDS[q.kind].own(g, q));
            }
        }

        int right(Group g) {
            int sum = 0;
            for (Question q : questions) {
                sum += g.sheet.getOrDefault(q.number, NONE) == q.truth ? 1 : 0;
            }
            return sum;
        }

        int right() {
            return groups.stream().mapToInt(this::right).sum();
        }

        boolean isDone(Group g) {
            return g.sheet.size() == questions.size();
        }

        /** Of a copy each: the least n of 0 .. 99 behind which it is so, or 100. */
        int soonest(java.util.function.Predicate<State> so) {
            State s = copy();
            for (int n = 0; n <= 99; n++) {
                if (so.test(s)) {
                    return n;
                }
                s.pass(1);
            }
            return 100;
        }

        int done(int group) {
            return soonest(s -> s.isDone(s.groups.get(group)));
        }

        int allDone() {
            return soonest(s -> s.groups.stream().allMatch(s::isDone));
        }

        int[] full(int n) {
            State s = copy();
            int[] best = {-1, 0, 0};
            for (int passed = 0; passed <= n; passed++) {
                for (int room = 0; room < 7; room++) {
                    int here = room;
                    int there = (int) s.groups.stream().filter(g -> g.at == here).count();
                    if (there > best[0]) {
                        best = new int[] {there, passed, room};
                    }
                }
                s.pass(1);
            }
            return best;
        }
    }

    private State with(Consumer<State> change) {
        State s = now.copy();
        change.accept(s);
        return s;
    }

    private State ahead(int n) {
        return now.copy().pass(n);
    }

    private int no(int number) {
        refused.merge(number, 1, Integer::sum);
        return number;
    }

    private boolean badRoom(int room) {
        return room < 0 || room > 6;
    }

    private boolean badQuestion(int q) {
        return q < 0 || q >= now.questions.size();
    }

    private boolean badGroup(int g) {
        return g < 0 || g >= now.groups.size();
    }

    /** The first of -4, -6 that fits a number; 0 if none does. */
    private int range(int v, int least, int most) {
        return v < least ? -4 : v > most ? -6 : 0;
    }

    private int other(int what, int most) {
        return what < 0 || what > most ? -2 : 0;
    }

    /** The first number that is not 0. */
    private int first(int... numbers) {
        for (int number : numbers) {
            if (number != 0) {
                return number;
            }
        }
        return 0;
    }

    private static int orNever(int n) {
        return n > 99 ? NONE : n;
    }

    /** Of candidates 0 .. size - 1 the least one with the least value below a bound; -9. */
    private static int least(int size, int bound, java.util.function.IntUnaryOperator value) {
        int best = NONE;
        int least = bound;
        for (int i = 0; i < size; i++) {
            int v = value.applyAsInt(i);
            if (v < least) {
                least = v;
                best = i;
            }
        }
        return best;
    }

    int letter(int c) {
        int refusal = first(range(c, 0, 255), letters.length() >= 96 ? -6 : 0);
        if (refusal != 0) {
            return no(refusal);
        }
        letters += (char) c;
        return letters.length();
    }

    private static final String[] FORMS = {"d##;", "q*###;", "g###;", "a##;", "w###;", "m##;"};

    private static boolean isSo(char form, char letter) {
        if (form == '#') {
            return letter >= '0' && letter <= '9';
        }
        return form == '*' ? "ldcmng".indexOf(letter) >= 0 : form == letter;
    }

    /** How many letters of a text from a place on are as the form has them, as far as both go. */
    private static int fitting(String form, String text, int place) {
        int i = 0;
        while (i < form.length() && place + i < text.length() && isSo(form.charAt(i), text.charAt(place + i))) {
            i++;
        }
        return i;
    }

    int museum() {
        String text = letters;
        letters = "";
        int place = 0;
        while (place < text.length() || place == 0) {
            int fits = 0;
            int length = -1;
            for (String form : FORMS) {
                if (fitting(form, text, place) > fits) {
                    fits = fitting(form, text, place);
                    length = form.length();
                }
            }
            if (fits != length) {
                return -1000 - place - fits;
            }
            place += length;
        }
        State before = now.copy();
        Matcher m = Pattern.compile("([a-z])([a-z]?)(\\d+);").matcher(text);
        int statements = 0;
        while (m.find()) {
            if (!perform(m.group(1).charAt(0), m.group(2), m.group(3))) {
                now = before;
                return -2000 - m.start();
            }
            statements++;
        }
        return statements;
    }

    private boolean perform(char letter, String kind, String digits) {
        int a = digits.charAt(0) - '0';
        int b = digits.charAt(1) - '0';
        int c = digits.length() > 2 ? digits.charAt(2) - '0' : 0;
        if (letter == 'd' && a <= 6 && b <= 6 && a != b) {
            now.turn(a, b);
        } else if (letter == 'q' && b <= 6 && now.questions.size() < 8) {
            Question q = new Question();
            q.number = now.questions.size();
            q.kind = "ldcmng".indexOf(kind.charAt(0));
            q.figure = a;
            q.room = b;
            q.truth = c;
            now.questions.add(q);
        } else if (letter == 'g' && c <= 7 && now.groups.size() < 5) {
            Group g = new Group();
            g.number = now.groups.size();
            g.tall = a;
            g.wit = b;
            g.first = c;
            now.groups.add(g);
        } else if (letter == 'a' && !badGroup(a) && b <= 6) {
            now.groups.get(a).at = b;
            now.groups.get(a).looked = 0;
        } else if (letter == 'w' && !badGroup(a) && !badQuestion(b)) {
            now.groups.get(a).sheet.put(b, c);
        } else if (letter == 'm' && 10 * a + b >= 1 && 10 * a + b <= 60 && now.minute + 10 * a + b <= 999) {
            now.pass(10 * a + b);
        } else {
            return false;
        }
        return true;
    }

    int door(int one, int other) {
        return badRoom(one) || badRoom(other) ? no(-1) : now.distance(one, other);
    }

    int question(int question, int what) {
        int refusal = first(badQuestion(question) ? -1 : 0, other(what, 4));
        if (refusal != 0) {
            return no(refusal);
        }
        Question q = now.questions.get(question);
        return new int[] {q.kind, q.figure, q.room, q.truth, q.minutes()}[what];
    }

    int group(int group, int what) {
        int refusal = first(badGroup(group) ? -1 : 0, other(what, 5));
        if (refusal != 0) {
            return no(refusal);
        }
        Group g = now.groups.get(group);
        Question next = now.next(g);
        return new int[] {g.tall, g.wit, g.first, g.at, g.looked, next == null ? NONE : next.number}[what];
    }

    int sheet(int group, int question) {
        if (badGroup(group) || badQuestion(question)) {
            return no(-1);
        }
        return now.groups.get(group).sheet.getOrDefault(question, NONE);
    }

    int opens(int one, int other) {
        if (badRoom(one) || badRoom(other) || one == other) {
            return no(-1);
        }
        now.turn(one, other);
        return now.doors[one][other] ? 1 : 0;
    }

    int put(int group, int room) {
        if (badGroup(group) || badRoom(room)) {
            return no(-1);
        }
        Group g = now.groups.get(group);
        int was = g.at;
        g.at = room;
        g.looked = 0;
        return was;
    }

    int start(int group, int v) {
        int refusal = first(badGroup(group) ? -1 : 0, range(v, 0, 7));
        if (refusal != 0) {
            return no(refusal);
        }
        int was = now.groups.get(group).first;
        now.groups.get(group).first = v;
        return was;
    }

    int write(int group, int question, int v) {
        int refusal = first(badGroup(group) || badQuestion(question) ? -1 : 0, range(v, 0, 10));
        if (refusal != 0) {
            return no(refusal);
        }
        Map<Integer, Integer> sheet = now.groups.get(group).sheet;
        Integer was = v == 10 ? sheet.remove(question) : sheet.put(question, v);
        return was == null ? NONE : was;
    }

    int minutes(int n) {
        int refusal = range(n, 1, Math.min(60, 999 - now.minute));
        if (n < 1) {
            refusal = -4;
        }
        return refusal != 0 ? no(refusal) : now.pass(n).right();
    }

    int behind(int group, int n, int what) {
        int refusal = first(badGroup(group) ? -1 : 0, range(n, 0, 99), other(what, 3));
        if (refusal != 0) {
            return no(refusal);
        }
        State s = ahead(n);
        Group g = s.groups.get(group);
        return new int[] {g.at, g.sheet.size(), s.right(g), g.sources.size()}[what];
    }

    int done(int group) {
        return badGroup(group) ? no(-1) : orNever(now.done(group));
    }

    int ended(int what) {
        if (other(what, 1) != 0) {
            return no(-2);
        }
        return what == 1 ? orNever(now.allDone()) : least(now.groups.size(), 100, now::done);
    }

    int answer(int group, int question, int what) {
        int refusal = first(badGroup(group) || badQuestion(question) ? -1 : 0, other(what, 1));
        if (refusal != 0) {
            return no(refusal);
        }
        Group g = ahead(99).groups.get(group);
        return (what == 0 ? g.sheet : g.sources).getOrDefault(question, NONE);
    }

    int full(int n, int what) {
        int refusal = first(range(n, 0, 99), other(what, 2));
        return refusal != 0 ? no(refusal) : now.full(n)[what];
    }

    int right(int n) {
        int refusal = range(n, 0, 99);
        return refusal != 0 ? no(refusal) : ahead(n).right();
    }

    int bestFirst(int group, int what) {
        int refusal = first(badGroup(group) ? -1 : 0, other(what, 1));
        if (refusal != 0) {
            return no(refusal);
        }
        ToIntFunction<State> value = what == 0 ? s -> s.done(group)
            : s -> 50 - s.pass(99).right(s.groups.get(group));
        return least(8, 100, v -> value.applyAsInt(with(s -> s.groups.get(group).first = v)));
    }

    int apart(int i) {
        int refusal = first(i < -1 ? -4 : 0, i >= now.groups.size() ? -1 : 0, now.groups.size() > 3 ? -3 : 0);
        if (refusal != 0) {
            return no(refusal);
        }
        int[] best = null;
        int least = 100;
        int size = now.groups.size();
        for (int a = 0; a < (size > 0 ? 8 : 1); a++) {
            for (int b = 0; b < (size > 1 ? 8 : 1); b++) {
                for (int c = 0; c < (size > 2 ? 8 : 1); c++) {
                    int[] firsts = {a, b, c};
                    int full = with(s -> s.groups.forEach(g -> g.first = firsts[g.number])).full(30)[0];
                    if (full < least) {
                        least = full;
                        best = firsts;
                    }
                }
            }
        }
        return i < 0 ? least : best[i];
    }

    private static void truthOnAll(State s, int question) {
        s.groups.forEach(g -> g.sheet.put(question, s.questions.get(question).truth));
    }

    int leave() {
        return least(now.questions.size(), 100, q -> with(s -> truthOnAll(s, q)).allDone());
    }

    int tell(int n) {
        int refusal = range(n, 0, 99);
        if (refusal != 0) {
            return no(refusal);
        }
        return least(now.questions.size(), -ahead(n).right(),
            q -> -with(s -> s.questions.get(q).kind = 5).pass(n).right());
    }

    int spreads(int group, int question) {
        int refusal = first(badGroup(group) || badQuestion(question) ? -1 : 0);
        if (refusal == 0 && now.groups.get(group).sheet.containsKey(question)) {
            refusal = -3;
        }
        if (refusal != 0) {
            return no(refusal);
        }
        int wrong = (now.questions.get(question).truth + 1) % 10;
        State s = with(t -> t.groups.get(group).sheet.put(question, wrong)).pass(99);
        return (int) s.groups.stream().filter(g -> g.sheet.getOrDefault(question, NONE) == wrong).count();
    }

    int missing(int n, int v) {
        int refusal = first(n < 0 || v < 0 ? -4 : 0, range(n, 0, 99), range(v, 0, 9));
        if (refusal != 0) {
            return no(refusal);
        }
        State s = ahead(n);
        int bits = 0;
        for (Group g : s.groups) {
            int way = s.distance(g.at, 0);
            bits += way == NONE || way > v ? 1 << g.number : 0;
        }
        return bits;
    }

    private static int together(State s) {
        return s.groups.stream().mapToInt(g -> s.done(g.number)).sum();
    }

    int worth(int question) {
        if (badQuestion(question)) {
            return 1000000000 - no(-1);
        }
        return together(now) - together(with(s -> truthOnAll(s, question)));
    }

    private static void choose(Group g, int choice) {
        if (choice == 1) {
            g.first = g.first == 7 ? 0 : g.first + 1;
        }
    }

    int two(int a, int b) {
        if (badGroup(a) || badGroup(b) || a == b) {
            return no(-1);
        }
        int[][] first = new int[2][2];
        int[][] second = new int[2][2];
        for (int pair = 0; pair < 4; pair++) {
            int x = pair / 2;
            int y = pair % 2;
            State s = with(t -> {
                choose(t.groups.get(a), x);
                choose(t.groups.get(b), y);
            });
            first[x][y] = s.done(a);
            second[x][y] = s.done(b);
        }
        for (int pair = 0; pair < 4; pair++) {
            int x = pair / 2;
            int y = pair % 2;
            if (first[1 - x][y] >= first[x][y] && second[x][1 - y] >= second[x][y]) {
                return 10 * x + y;
            }
        }
        return NONE;
    }

    int newDoor() {
        return least(70, now.allDone(), pair -> {
            int one = pair / 10;
            int other = pair % 10;
            if (other > 6 || other <= one || now.doors[one][other]) {
                return 1000;
            }
            return with(s -> s.turn(one, other)).allDone();
        });
    }

    int which(int group, int question, int what) {
        int refusal = first(badGroup(group) || badQuestion(question) ? -1 : 0, other(what, 1),
            row.size() != now.questions.size() ? -3 : 0);
        if (refusal != 0) {
            return no(refusal);
        }
        int bits = 0;
        for (int v = 0; v < (what == 0 ? 6 : 10); v++) {
            int chosen = v;
            State s = with(t -> {
                if (what == 0) {
                    t.questions.get(question).kind = chosen;
                } else {
                    t.groups.get(group).wit = chosen;
                }
            }).pass(99);
            List<Integer> told = new ArrayList<>();
            s.questions.forEach(q -> told.add(s.groups.get(group).sheet.getOrDefault(q.number, 10)));
            bits += told.equals(row) ? 1 << v : 0;
        }
        return bits;
    }

    int row(int v) {
        int refusal = first(range(v, 0, 99), row.size() >= 12 ? -6 : 0);
        if (refusal != 0) {
            return no(refusal);
        }
        row.add(v);
        return row.size();
    }

    int judge(int group) {
        if (badGroup(group)) {
            return no(-1);
        }
        List<Integer> told = row;
        row = new ArrayList<>();
        for (int n = 0; n < told.size(); n++) {
            if (ahead(n).groups.get(group).sheet.size() != told.get(n)) {
                return n;
            }
        }
        return NONE;
    }

    int clear() {
        int had = row.size();
        row = new ArrayList<>();
        return had;
    }

    int lots(int n, int z, int what) {
        int refusal = first(range(n, 1, 20), other(what, 1));
        if (refusal != 0) {
            return no(refusal);
        }
        long[] seed = {z};
        java.util.function.IntUnaryOperator draw = m -> {
            seed[0] = (int) (seed[0] * 1664525L + 1013904223L);
            long positive = seed[0] < 0 ? seed[0] + 0x80000000L : seed[0];
            return (int) (positive / 256 % m);
        };
        int sum = 0;
        for (int i = 0; i < n; i++) {
            State s = with(t -> t.groups.forEach(g -> {
                g.at = draw.applyAsInt(7);
                g.first = draw.applyAsInt(8);
            })).pass(30);
            sum += what == 0 ? s.right() : s.groups.stream().mapToInt(g -> g.sources.size()).sum();
        }
        return sum;
    }

    int image() {
        image = now.copy();
        return now.minute;
    }

    int on() {
        if (image == null) {
            return no(-3);
        }
        now = image.copy();
        return now.minute;
    }

    int count(int what) {
        if (what >= 11 && what <= 16) {
            return refused.getOrDefault(10 - what, 0);
        }
        if (what < 0 || what > 7) {
            return NONE;
        }
        int doors = 0;
        for (int one = 0; one < 7; one++) {
            for (int other = one; other < 7; other++) {
                doors += now.doors[one][other] ? 1 : 0;
            }
        }
        int answers = now.groups.stream().mapToInt(g -> g.sheet.size()).sum();
        return new int[] {now.questions.size(), now.groups.size(), doors, now.minute, answers, now.right(),
            row.size(), letters.length()}[what];
    }
}
