import java.util.Arrays;

/** The museum of ../shared/DOC.md: rooms, questions, groups, and what comes of them minute by minute. */
public final class GreenHorseUpstairs {
    private static final int NOBODY = -1;
    private static final int OTHER = -2;
    private static final int STATE = -3;
    private static final int BELOW = -4;
    private static final int ABOVE = -6;
    private static final int NONE = -9;

    /** The document's thoughts reach 99 minutes; who is not done by then counts as 100. */
    private static final int FARTHEST = 99;
    private static final int NEVER = 100;
    private static final int LAST_MINUTE = 999;
    private static final int MOST_AT_ONCE = 60;
    private static final int CROWD_MINUTES = 30;
    private static final int MOST_FIRSTS = 8;
    private static final int MOST_APART = 3;
    private static final int MOST_LOTS = 20;
    private static final int MOST_IN_ROW = 12;
    private static final int WIPE = 10;
    private static final int WORTH_REFUSED = 1000000000;

    private final Museum now = new Museum();
    /** Every thought begins as a copy in here, so that no call makes an object. */
    private final Museum thought = new Museum();
    private final Museum kept = new Museum();
    private final Museum image = new Museum();
    private boolean imageTaken = false;
    private final Letters letters = new Letters();
    private final int[] row = new int[MOST_IN_ROW];
    private int rowLength = 0;
    private final int[] refusals = new int[7];

    public GreenHorseUpstairs() {
    }

    public int letter(int c) {
        if (c < 0) {
            return refuse(BELOW);
        }
        if (c > 255 || letters.isFull()) {
            return refuse(ABOVE);
        }
        return letters.append(c);
    }

    public int museum() {
        int place = letters.faultOfForm();
        int told = place >= 0 ? -1000 - place : performAll();
        letters.forget();
        return told;
    }

    public int door(int one, int other) {
        if (noRoom(one) || noRoom(other)) {
            return refuse(NOBODY);
        }
        return now.rooms.distance(one, other);
    }

    public int question(int question, int what) {
        if (noQuestion(question)) {
            return refuse(NOBODY);
        }
        switch (what) {
            case 0:
                return now.kind[question];
            case 1:
                return now.figure[question];
            case 2:
                return now.room[question];
            case 3:
                return now.truth[question];
            case 4:
                return now.minutesFor(question);
            default:
                return refuse(OTHER);
        }
    }

    public int group(int group, int what) {
        if (noGroup(group)) {
            return refuse(NOBODY);
        }
        switch (what) {
            case 0:
                return now.tall[group];
            case 1:
                return now.wit[group];
            case 2:
                return now.first[group];
            case 3:
                return now.at[group];
            case 4:
                return now.looked[group];
            case 5:
                return now.nextQuestion(group);
            default:
                return refuse(OTHER);
        }
    }

    public int sheet(int group, int question) {
        if (noGroup(group) || noQuestion(question)) {
            return refuse(NOBODY);
        }
        return now.answerOf(group, question);
    }

    public int opens(int one, int other) {
        if (noRoom(one) || noRoom(other) || one == other) {
            return refuse(NOBODY);
        }
        now.rooms.turn(one, other);
        return now.rooms.isOpen(one, other) ? 1 : 0;
    }

    public int put(int group, int room) {
        if (noGroup(group) || noRoom(room)) {
            return refuse(NOBODY);
        }
        int was = now.at[group];
        now.place(group, room);
        return was;
    }

    public int start(int group, int v) {
        if (noGroup(group)) {
            return refuse(NOBODY);
        }
        if (v < 0) {
            return refuse(BELOW);
        }
        if (v >= MOST_FIRSTS) {
            return refuse(ABOVE);
        }
        int was = now.first[group];
        now.first[group] = v;
        return was;
    }

    public int write(int group, int question, int v) {
        if (noGroup(group) || noQuestion(question)) {
            return refuse(NOBODY);
        }
        if (v < 0) {
            return refuse(BELOW);
        }
        if (v > WIPE) {
            return refuse(ABOVE);
        }
        int was = now.answerOf(group, question);
        now.fill(group, question, v == WIPE ? NONE : v);
        return was;
    }

    public int minutes(int n) {
        if (n < 1) {
            return refuse(BELOW);
        }
        if (n > MOST_AT_ONCE || now.minute + n > LAST_MINUTE) {
            return refuse(ABOVE);
        }
        now.passMinutes(n);
        return now.rightOfAll();
    }

    public int behind(int group, int n, int what) {
        if (noGroup(group)) {
            return refuse(NOBODY);
        }
        if (n < 0) {
            return refuse(BELOW);
        }
        if (n > FARTHEST) {
            return refuse(ABOVE);
        }
        if (what < 0 || what > 3) {
            return refuse(OTHER);
        }
        thinkAhead(n);
        switch (what) {
            case 0:
                return thought.at[group];
            case 1:
                return thought.answersOf(group);
            case 2:
                return thought.rightOf(group);
            default:
                return thought.copiedBy(group);
        }
    }

    public int done(int group) {
        if (noGroup(group)) {
            return refuse(NOBODY);
        }
        think();
        return noneIfNever(minutesTillDone(group));
    }

    public int ended(int what) {
        if (what < 0 || what > 1) {
            return refuse(OTHER);
        }
        think();
        return what == 0 ? firstDone() : noneIfNever(minutesTillAllDone());
    }

    public int answer(int group, int question, int what) {
        if (noGroup(group) || noQuestion(question)) {
            return refuse(NOBODY);
        }
        if (what < 0 || what > 1) {
            return refuse(OTHER);
        }
        thinkAhead(FARTHEST);
        return what == 0 ? thought.answerOf(group, question) : thought.sourceOf(group, question);
    }

    public int full(int n, int what) {
        if (n < 0) {
            return refuse(BELOW);
        }
        if (n > FARTHEST) {
            return refuse(ABOVE);
        }
        if (what < 0 || what > 2) {
            return refuse(OTHER);
        }
        think();
        return fullest(n, what);
    }

    public int right(int n) {
        if (n < 0) {
            return refuse(BELOW);
        }
        if (n > FARTHEST) {
            return refuse(ABOVE);
        }
        thinkAhead(n);
        return thought.rightOfAll();
    }

    public int bestFirst(int group, int what) {
        if (noGroup(group)) {
            return refuse(NOBODY);
        }
        if (what < 0 || what > 1) {
            return refuse(OTHER);
        }
        return what == 0 ? soonestFirst(group) : truestFirst(group);
    }

    public int apart(int i) {
        if (i < -1) {
            return refuse(BELOW);
        }
        if (i >= now.groups) {
            return refuse(NOBODY);
        }
        if (now.groups > MOST_APART) {
            return refuse(STATE);
        }
        int firsts = firstsApart();
        if (i >= 0) {
            return firstIn(firsts, i);
        }
        return fullestWith(firsts);
    }

    public int leave() {
        int best = NONE;
        int soonest = NEVER;
        for (int question = 0; question < now.questions; question++) {
            think();
            thought.fillTruth(question);
            int n = minutesTillAllDone();
            if (n < soonest) {
                soonest = n;
                best = question;
            }
        }
        return best;
    }

    public int tell(int n) {
        if (n < 0) {
            return refuse(BELOW);
        }
        if (n > FARTHEST) {
            return refuse(ABOVE);
        }
        thinkAhead(n);
        int most = thought.rightOfAll();
        int best = NONE;
        for (int question = 0; question < now.questions; question++) {
            think();
            thought.kind[question] = Museum.GUARD;
            thought.passMinutes(n);
            if (thought.rightOfAll() > most) {
                most = thought.rightOfAll();
                best = question;
            }
        }
        return best;
    }

    public int spreads(int group, int question) {
        if (noGroup(group) || noQuestion(question)) {
            return refuse(NOBODY);
        }
        if (now.answerOf(group, question) != NONE) {
            return refuse(STATE);
        }
        int wrong = (now.truth[question] + 1) % 10;
        think();
        thought.fill(group, question, wrong);
        thought.passMinutes(FARTHEST);
        int having = 0;
        for (int other = 0; other < thought.groups; other++) {
            having += thought.answerOf(other, question) == wrong ? 1 : 0;
        }
        return having;
    }

    public int missing(int n, int v) {
        if (n < 0 || v < 0) {
            return refuse(BELOW);
        }
        if (n > FARTHEST || v > 9) {
            return refuse(ABOVE);
        }
        thinkAhead(n);
        int bits = 0;
        for (int group = 0; group < thought.groups; group++) {
            int doors = thought.rooms.distance(thought.at[group], 0);
            if (doors == NONE || doors > v) {
                bits |= 1 << group;
            }
        }
        return bits;
    }

    public int worth(int question) {
        if (noQuestion(question)) {
            return WORTH_REFUSED - refuse(NOBODY);
        }
        think();
        int needed = minutesOfAllTogether();
        think();
        thought.fillTruth(question);
        return needed - minutesOfAllTogether();
    }

    public int two(int a, int b) {
        if (noGroup(a) || noGroup(b) || a == b) {
            return refuse(NOBODY);
        }
        for (int choice = 0; choice < 2; choice++) {
            for (int other = 0; other < 2; other++) {
                if (isContent(a, choice, b, other) && isContent(b, other, a, choice)) {
                    return 10 * choice + other;
                }
            }
        }
        return NONE;
    }

    public int newDoor() {
        think();
        int soonest = minutesTillAllDone();
        int best = NONE;
        for (int one = 0; one < Rooms.ROOMS; one++) {
            for (int other = one + 1; other < Rooms.ROOMS; other++) {
                if (now.rooms.isOpen(one, other)) {
                    continue;
                }
                think();
                thought.rooms.turn(one, other);
                int n = minutesTillAllDone();
                if (n < soonest) {
                    soonest = n;
                    best = 10 * one + other;
                }
            }
        }
        return best;
    }

    public int which(int group, int question, int what) {
        if (noGroup(group) || noQuestion(question)) {
            return refuse(NOBODY);
        }
        if (what < 0 || what > 1) {
            return refuse(OTHER);
        }
        if (rowLength != now.questions) {
            return refuse(STATE);
        }
        int bits = 0;
        int tried = what == 0 ? Museum.KINDS : 10;
        for (int v = 0; v < tried; v++) {
            think();
            if (what == 0) {
                thought.kind[question] = v;
            } else {
                thought.wit[group] = v;
            }
            thought.passMinutes(FARTHEST);
            if (rowTellsSheetOf(group)) {
                bits |= 1 << v;
            }
        }
        return bits;
    }

    public int row(int v) {
        if (v < 0) {
            return refuse(BELOW);
        }
        if (v > 99 || rowLength >= MOST_IN_ROW) {
            return refuse(ABOVE);
        }
        row[rowLength] = v;
        rowLength++;
        return rowLength;
    }

    public int judge(int group) {
        if (noGroup(group)) {
            return refuse(NOBODY);
        }
        int wrong = NONE;
        think();
        for (int n = 0; n < rowLength && wrong == NONE; n++) {
            if (thought.answersOf(group) != row[n]) {
                wrong = n;
            }
            thought.passMinute();
        }
        rowLength = 0;
        return wrong;
    }

    public int clear() {
        int had = rowLength;
        rowLength = 0;
        return had;
    }

    public int lots(int n, int z, int what) {
        if (n < 1) {
            return refuse(BELOW);
        }
        if (n > MOST_LOTS) {
            return refuse(ABOVE);
        }
        if (what < 0 || what > 1) {
            return refuse(OTHER);
        }
        int seed = z;
        int sum = 0;
        for (int i = 0; i < n; i++) {
            think();
            for (int group = 0; group < thought.groups; group++) {
                seed = nextSeed(seed);
                thought.at[group] = drawn(seed) % Rooms.ROOMS;
                seed = nextSeed(seed);
                thought.first[group] = drawn(seed) % MOST_FIRSTS;
            }
            thought.passMinutes(CROWD_MINUTES);
            sum += what == 0 ? thought.rightOfAll() : thought.copiedByAll();
        }
        return sum;
    }

    public int image() {
        image.become(now);
        imageTaken = true;
        return now.minute;
    }

    public int on() {
        if (!imageTaken) {
            return refuse(STATE);
        }
        now.become(image);
        return now.minute;
    }

    public int count(int what) {
        switch (what) {
            case 0:
                return now.questions;
            case 1:
                return now.groups;
            case 2:
                return now.rooms.doors();
            case 3:
                return now.minute;
            case 4:
                return now.answersOfAll();
            case 5:
                return now.rightOfAll();
            case 6:
                return rowLength;
            case 7:
                return letters.length();
            default:
                return what >= 11 && what <= 16 ? refusals[what - 10] : NONE;
        }
    }

    private int refuse(int number) {
        refusals[-number]++;
        return number;
    }

    private static boolean noRoom(int room) {
        return room < 0 || room >= Rooms.ROOMS;
    }

    private boolean noQuestion(int question) {
        return question < 0 || question >= now.questions;
    }

    private boolean noGroup(int group) {
        return group < 0 || group >= now.groups;
    }

    private void think() {
        thought.become(now);
        thought.forgetCopies();
    }

    private void thinkAhead(int n) {
        think();
        thought.passMinutes(n);
    }

    private static int noneIfNever(int n) {
        return n >= NEVER ? NONE : n;
    }

    /** Lets the thought go on until the group is done; 100 if it never is. */
    private int minutesTillDone(int group) {
        int n = 0;
        while (n < NEVER && !thought.isDone(group)) {
            thought.passMinute();
            n++;
        }
        return n;
    }

    /** Lets the thought go on until all groups are done; 100 if they never are. */
    private int minutesTillAllDone() {
        int n = 0;
        while (n < NEVER && thought.undone() > 0) {
            thought.passMinute();
            n++;
        }
        return n;
    }

    /** Each group is undone behind as many of the minutes 0 .. 99 as it needs till it is done. */
    private int minutesOfAllTogether() {
        int sum = 0;
        for (int n = 0; n < NEVER; n++) {
            sum += thought.undone();
            thought.passMinute();
        }
        return sum;
    }

    private int firstDone() {
        for (int n = 0; n <= FARTHEST; n++) {
            for (int group = 0; group < thought.groups; group++) {
                if (thought.isDone(group)) {
                    return group;
                }
            }
            thought.passMinute();
        }
        return NONE;
    }

    /** Of the thought's minutes 0 .. n: how many groups at most in one room, behind how many first, which room. */
    private int fullest(int n, int what) {
        int most = -1;
        int when = 0;
        int where = 0;
        for (int passed = 0; passed <= n; passed++) {
            for (int room = 0; room < Rooms.ROOMS; room++) {
                int there = thought.groupsAt(room);
                if (there > most) {
                    most = there;
                    when = passed;
                    where = room;
                }
            }
            thought.passMinute();
        }
        if (what == 0) {
            return most;
        }
        return what == 1 ? when : where;
    }

    private int soonestFirst(int group) {
        int best = NONE;
        int soonest = NEVER;
        for (int first = 0; first < MOST_FIRSTS; first++) {
            think();
            thought.first[group] = first;
            int n = minutesTillDone(group);
            if (n < soonest) {
                soonest = n;
                best = first;
            }
        }
        return best;
    }

    private int truestFirst(int group) {
        int best = 0;
        int most = -1;
        for (int first = 0; first < MOST_FIRSTS; first++) {
            think();
            thought.first[group] = first;
            thought.passMinutes(FARTHEST);
            int right = thought.rightOf(group);
            if (right > most) {
                most = right;
                best = first;
            }
        }
        return best;
    }

    /** The firsts of all groups in one number: three bits each, group 0's the highest, so that numbers go by groups. */
    private int firstsApart() {
        think();
        int leastPossible = fullest(0, 0);
        int best = 0;
        int least = fullestWith(0);
        int ways = 1 << (3 * now.groups);
        for (int firsts = 1; firsts < ways && least > leastPossible; firsts++) {
            int most = fullestWith(firsts);
            if (most < least) {
                least = most;
                best = firsts;
            }
        }
        return best;
    }

    private int firstIn(int firsts, int group) {
        return (firsts >> (3 * (now.groups - 1 - group))) & 7;
    }

    private int fullestWith(int firsts) {
        think();
        for (int group = 0; group < thought.groups; group++) {
            thought.first[group] = firstIn(firsts, group);
        }
        return fullest(CROWD_MINUTES, 0);
    }

    private boolean isContent(int group, int choice, int other, int otherChoice) {
        return minutesByChoice(group, choice, other, otherChoice)
            <= minutesByChoice(group, 1 - choice, other, otherChoice);
    }

    private int minutesByChoice(int group, int choice, int other, int otherChoice) {
        think();
        thought.first[group] = firstChosen(group, choice);
        thought.first[other] = firstChosen(other, otherChoice);
        return minutesTillDone(group);
    }

    /** What is chosen is a first too, and firsts end at 7: behind it comes 0, however many questions there are. */
    private int firstChosen(int group, int choice) {
        return (now.first[group] + choice) % MOST_FIRSTS;
    }

    private boolean rowTellsSheetOf(int group) {
        for (int question = 0; question < rowLength && question < thought.questions; question++) {
            int answer = thought.answerOf(group, question);
            if (row[question] != (answer == NONE ? WIPE : answer)) {
                return false;
            }
        }
        return true;
    }

    private static int nextSeed(int seed) {
        return seed * 1664525 + 1013904223;
    }

    private static int drawn(int seed) {
        return (seed & 0x7fffffff) / 256;
    }

    /** Performs the statements of letters that are in form; how many, or the fault, with which nothing has changed. */
    private int performAll() {
        kept.become(now);
        int statements = 0;
        int place = 0;
        while (place < letters.length()) {
            if (!perform(place)) {
                now.become(kept);
                return -2000 - place;
            }
            place += Letters.signsBehind(letters.at(place)) + 2;
            statements++;
        }
        return statements;
    }

    private boolean perform(int place) {
        int a = letters.digit(place + 1);
        int b = letters.digit(place + 2);
        int c = letters.digit(place + 3);
        switch (letters.at(place)) {
            case 'd':
                return performDoor(a, b);
            case 'q':
                return performQuestion(Letters.kindOf(letters.at(place + 1)), b, c, letters.digit(place + 4));
            case 'g':
                return performGroup(a, b, c);
            case 'a':
                return performPlace(a, b);
            case 'w':
                return performAnswer(a, b, c);
            default:
                return performMinutes(10 * a + b);
        }
    }

    private boolean performDoor(int one, int other) {
        if (noRoom(one) || noRoom(other) || one == other) {
            return false;
        }
        now.rooms.turn(one, other);
        return true;
    }

    private boolean performQuestion(int kind, int figure, int room, int truth) {
        if (noRoom(room) || now.questions >= Museum.MOST_QUESTIONS) {
            return false;
        }
        now.addQuestion(kind, figure, room, truth);
        return true;
    }

    private boolean performGroup(int tall, int wit, int first) {
        if (first >= MOST_FIRSTS || now.groups >= Museum.MOST_GROUPS) {
            return false;
        }
        now.addGroup(tall, wit, first);
        return true;
    }

    private boolean performPlace(int group, int room) {
        if (noGroup(group) || noRoom(room)) {
            return false;
        }
        now.place(group, room);
        return true;
    }

    private boolean performAnswer(int group, int question, int v) {
        if (noGroup(group) || noQuestion(question)) {
            return false;
        }
        now.fill(group, question, v);
        return true;
    }

    private boolean performMinutes(int n) {
        if (n < 1 || n > MOST_AT_ONCE || now.minute + n > LAST_MINUTE) {
            return false;
        }
        now.passMinutes(n);
        return true;
    }

    /** The letters of a museum that is being told, and the form they must have. */
    private static final class Letters {
        private static final int MOST = 96;
        private static final String KIND_LETTERS = "ldcmng";

        private final int[] signs = new int[MOST];
        private int length = 0;

        int length() {
            return length;
        }

        boolean isFull() {
            return length >= MOST;
        }

        int append(int sign) {
            if (length < MOST) {
                signs[length] = sign;
                length++;
            }
            return length;
        }

        void forget() {
            length = 0;
        }

        /** The letter at a place; 0, which no form has, beyond the end. */
        int at(int place) {
            return place >= 0 && place < length ? signs[place] : 0;
        }

        int digit(int place) {
            return at(place) - '0';
        }

        static int kindOf(int letter) {
            return KIND_LETTERS.indexOf((char) letter);
        }

        /** How many signs a statement has between its letter and the ";"; 0 if none begins so. */
        static int signsBehind(int letter) {
            switch (letter) {
                case 'd':
                case 'a':
                case 'm':
                    return 2;
                case 'g':
                case 'w':
                    return 3;
                case 'q':
                    return 4;
                default:
                    return 0;
            }
        }

        /** The place of the first letter with which no museum can go on, the end if something lacks; or NONE. */
        int faultOfForm() {
            int place = 0;
            do {
                int fault = faultOfStatement(place);
                if (fault != NONE) {
                    return fault;
                }
                place += signsBehind(at(place)) + 2;
            } while (place < length);
            return NONE;
        }

        private int faultOfStatement(int start) {
            int letter = at(start);
            int signsBehind = signsBehind(letter);
            if (signsBehind == 0) {
                return start;
            }
            for (int i = 1; i <= signsBehind + 1; i++) {
                if (start + i >= length || !fits(letter, i, signsBehind, at(start + i))) {
                    return start + i;
                }
            }
            return NONE;
        }

        private static boolean fits(int letter, int i, int signsBehind, int sign) {
            if (i > signsBehind) {
                return sign == ';';
            }
            if (letter == 'q' && i == 1) {
                return kindOf(sign) >= 0;
            }
            return sign >= '0' && sign <= '9';
        }
    }

    /** Which rooms have doors between them, and how far they are from one another. */
    private static final class Rooms {
        static final int ROOMS = 7;
        private static final int NO_WAY = 1000;

        private final int[] open = new int[ROOMS * ROOMS];
        private final int[] far = new int[ROOMS * ROOMS];

        Rooms() {
            measure();
        }

        void become(Rooms other) {
            System.arraycopy(other.open, 0, open, 0, open.length);
            System.arraycopy(other.far, 0, far, 0, far.length);
        }

        boolean isOpen(int one, int other) {
            return open[one * ROOMS + other] == 1;
        }

        /** Makes a door where there was none, and none where there was one. */
        void turn(int one, int other) {
            int turned = isOpen(one, other) ? 0 : 1;
            open[one * ROOMS + other] = turned;
            open[other * ROOMS + one] = turned;
            measure();
        }

        int doors() {
            int ends = 0;
            for (int i = 0; i < open.length; i++) {
                ends += open[i];
            }
            return ends / 2;
        }

        int distance(int from, int to) {
            int doors = far[from * ROOMS + to];
            return doors >= NO_WAY ? NONE : doors;
        }

        /** The next room on the way, of several the least; the same room if there is no way. */
        int towards(int from, int to) {
            int doors = far[from * ROOMS + to];
            for (int room = 0; room < ROOMS; room++) {
                if (open[from * ROOMS + room] == 1 && far[room * ROOMS + to] < doors) {
                    return room;
                }
            }
            return from;
        }

        private void measure() {
            for (int i = 0; i < far.length; i++) {
                far[i] = open[i] == 1 ? 1 : NO_WAY;
            }
            for (int room = 0; room < ROOMS; room++) {
                far[room * ROOMS + room] = 0;
            }
            for (int by = 0; by < ROOMS; by++) {
                shortenBy(by);
            }
        }

        private void shortenBy(int by) {
            for (int from = 0; from < ROOMS; from++) {
                for (int to = 0; to < ROOMS; to++) {
                    int round = far[from * ROOMS + by] + far[by * ROOMS + to];
                    far[from * ROOMS + to] = Math.min(far[from * ROOMS + to], round);
                }
            }
        }
    }

    /** All that there is at one minute: what an image holds and a thought begins with. */
    private static final class Museum {
        static final int MOST_QUESTIONS = 8;
        static final int MOST_GROUPS = 5;
        static final int KINDS = 6;
        static final int LOOK = 0;
        static final int DRAW = 1;
        static final int COPY = 2;
        static final int MOVED = 3;
        static final int NUMBER = 4;
        static final int GUARD = 5;

        final Rooms rooms = new Rooms();
        int minute = 0;
        int questions = 0;
        final int[] kind = new int[MOST_QUESTIONS];
        final int[] figure = new int[MOST_QUESTIONS];
        final int[] room = new int[MOST_QUESTIONS];
        final int[] truth = new int[MOST_QUESTIONS];
        int groups = 0;
        final int[] tall = new int[MOST_GROUPS];
        final int[] wit = new int[MOST_GROUPS];
        final int[] first = new int[MOST_GROUPS];
        final int[] at = new int[MOST_GROUPS];
        final int[] looked = new int[MOST_GROUPS];
        private final int[] sheets = new int[MOST_GROUPS * MOST_QUESTIONS];
        /** From whom each answer was copied since forgetCopies. */
        private final int[] sources = new int[MOST_GROUPS * MOST_QUESTIONS];

        Museum() {
            Arrays.fill(sheets, NONE);
            Arrays.fill(sources, NONE);
        }

        void become(Museum other) {
            rooms.become(other.rooms);
            minute = other.minute;
            questions = other.questions;
            System.arraycopy(other.kind, 0, kind, 0, MOST_QUESTIONS);
            System.arraycopy(other.figure, 0, figure, 0, MOST_QUESTIONS);
            System.arraycopy(other.room, 0, room, 0, MOST_QUESTIONS);
            System.arraycopy(other.truth, 0, truth, 0, MOST_QUESTIONS);
            groups = other.groups;
            System.arraycopy(other.tall, 0, tall, 0, MOST_GROUPS);
            System.arraycopy(other.wit, 0, wit, 0, MOST_GROUPS);
            System.arraycopy(other.first, 0, first, 0, MOST_GROUPS);
            System.arraycopy(other.at, 0, at, 0, MOST_GROUPS);
            System.arraycopy(other.looked, 0, looked, 0, MOST_GROUPS);
            System.arraycopy(other.sheets, 0, sheets, 0, sheets.length);
            System.arraycopy(other.sources, 0, sources, 0, sources.length);
        }

        void forgetCopies() {
            Arrays.fill(sources, NONE);
        }

        void addQuestion(int itsKind, int itsFigure, int itsRoom, int itsTruth) {
            if (questions >= MOST_QUESTIONS) {
                return;
            }
            kind[questions] = itsKind;
            figure[questions] = itsFigure;
            room[questions] = itsRoom;
            truth[questions] = itsTruth;
            questions++;
        }

        void addGroup(int itsTall, int itsWit, int itsFirst) {
            if (groups >= MOST_GROUPS) {
                return;
            }
            tall[groups] = itsTall;
            wit[groups] = itsWit;
            first[groups] = itsFirst;
            groups++;
        }

        void place(int group, int itsRoom) {
            at[group] = itsRoom;
            looked[group] = 0;
        }

        int answerOf(int group, int question) {
            return sheets[group * MOST_QUESTIONS + question];
        }

        void fill(int group, int question, int v) {
            sheets[group * MOST_QUESTIONS + question] = v;
        }

        void fillTruth(int question) {
            for (int group = 0; group < groups; group++) {
                fill(group, question, truth[question]);
            }
        }

        int sourceOf(int group, int question) {
            return sources[group * MOST_QUESTIONS + question];
        }

        int nextQuestion(int group) {
            for (int i = 0; i < questions; i++) {
                int question = (first[group] + i) % questions;
                if (sheets[group * MOST_QUESTIONS + question] == NONE) {
                    return question;
                }
            }
            return NONE;
        }

        boolean isDone(int group) {
            return nextQuestion(group) == NONE;
        }

        int undone() {
            int sum = 0;
            for (int group = 0; group < groups; group++) {
                sum += isDone(group) ? 0 : 1;
            }
            return sum;
        }

        int minutesFor(int question) {
            switch (kind[question]) {
                case DRAW:
                case NUMBER:
                    return 1 + figure[question];
                case MOVED:
                    return 2;
                case GUARD:
                    return 3;
                default:
                    return 1;
            }
        }

        void passMinutes(int n) {
            for (int i = 0; i < n; i++) {
                passMinute();
            }
        }

        void passMinute() {
            minute++;
            for (int group = 0; group < groups; group++) {
                int question = nextQuestion(group);
                if (question != NONE) {
                    goOnWith(group, question);
                }
            }
        }

        private void goOnWith(int group, int question) {
            if (at[group] != room[question]) {
                place(group, rooms.towards(at[group], room[question]));
                return;
            }
            looked[group]++;
            if (looked[group] < minutesFor(question)) {
                return;
            }
            looked[group] = 0;
            int source = wouldCopy(group, question) ? sourceFor(group, question) : NONE;
            sources[group * MOST_QUESTIONS + question] = source;
            fill(group, question, source == NONE ? ownAnswer(group, question) : answerOf(source, question));
        }

        private boolean wouldCopy(int group, int question) {
            switch (kind[question]) {
                case LOOK:
                case DRAW:
                    return tall[group] < figure[question];
                default:
                    return kind[question] == COPY;
            }
        }

        /** The least other group in the room that has an answer. */
        private int sourceFor(int group, int question) {
            for (int other = 0; other < groups; other++) {
                boolean isThere = other != group && at[other] == at[group];
                if (isThere && sheets[other * MOST_QUESTIONS + question] != NONE) {
                    return other;
                }
            }
            return NONE;
        }

        private int ownAnswer(int group, int question) {
            int right = truth[question];
            switch (kind[question]) {
                case MOVED:
                    return wit[group];
                case NUMBER:
                    return wit[group] < figure[question] ? (right + 1) % 10 : right;
                case GUARD:
                    return right;
                default:
                    return tall[group] < figure[question] ? wit[group] : right;
            }
        }

        int answersOf(int group) {
            int sum = 0;
            for (int question = 0; question < questions; question++) {
                sum += answerOf(group, question) == NONE ? 0 : 1;
            }
            return sum;
        }

        int rightOf(int group) {
            int sum = 0;
            for (int question = 0; question < questions; question++) {
                sum += answerOf(group, question) == truth[question] ? 1 : 0;
            }
            return sum;
        }

        int copiedBy(int group) {
            int sum = 0;
            for (int question = 0; question < questions; question++) {
                sum += sourceOf(group, question) == NONE ? 0 : 1;
            }
            return sum;
        }

        int answersOfAll() {
            int sum = 0;
            for (int group = 0; group < groups; group++) {
                sum += answersOf(group);
            }
            return sum;
        }

        int rightOfAll() {
            int sum = 0;
            for (int group = 0; group < groups; group++) {
                sum += rightOf(group);
            }
            return sum;
        }

        int copiedByAll() {
            int sum = 0;
            for (int group = 0; group < groups; group++) {
                sum += copiedBy(group);
            }
            return sum;
        }

        int groupsAt(int itsRoom) {
            int sum = 0;
            for (int group = 0; group < groups; group++) {
                sum += at[group] == itsRoom ? 1 : 0;
            }
            return sum;
        }
    }
}
