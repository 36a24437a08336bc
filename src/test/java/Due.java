/** What the tests share: an answer that is due, a museum told in letters, the end of a test. */
final class Due {
    private static int wrong = 0;
    private static int asked = 0;

    private Due() {
    }

    static void due(String call, long got, long want) {
        asked++;
        if (got != want) {
            wrong++;
            System.out.println(call + " answered " + got + ", due is " + want);
        }
    }

    static void isTrue(String what, boolean holds) {
        due(what, holds ? 1 : 0, 1);
    }

    /** Tells a text letter by letter and answers what museum() answers. */
    static int tell(GreenHorseUpstairs x, String text) {
        for (int i = 0; i < text.length(); i++) {
            x.letter(text.charAt(i));
        }
        return x.museum();
    }

    /** A new object with a text that must be without fault. */
    static GreenHorseUpstairs told(String text) {
        GreenHorseUpstairs x = new GreenHorseUpstairs();
        int statements = 0;
        for (int i = 0; i < text.length(); i++) {
            statements += text.charAt(i) == ';' ? 1 : 0;
        }
        due("museum() of " + text, tell(x, text), statements);
        return x;
    }

    /** How many refusals -1 .. -6 there were, as one number of six parts. */
    static void refusals(String of, GreenHorseUpstairs x, int nobody, int other, int state, int below, int above) {
        due(of + ": count(11)", x.count(11), nobody);
        due(of + ": count(12)", x.count(12), other);
        due(of + ": count(13)", x.count(13), state);
        due(of + ": count(14)", x.count(14), below);
        due(of + ": count(15)", x.count(15), 0);
        due(of + ": count(16)", x.count(16), above);
    }

    static void finish() {
        System.out.println(asked + " asked, " + wrong + " not as due");
        if (wrong != 0) {
            System.exit(1);
        }
    }
}
