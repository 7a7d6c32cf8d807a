/** Says which answers are not the ones that are due. */
final class Due {
    private static int wrong;
    private static int asked;
    /** The test that is run, told with each answer that is not as due. */
    private static String test = "";

    private Due() {
    }

    static void inTest(String name) {
        test = name + ": ";
    }

    static void due(String what, int got, int want) {
        asked++;
        if (got != want) {
            wrong++;
            System.out.println(test + what + ": answered " + got + ", due is " + want);
        }
    }

    static void due(String what, boolean got, boolean want) {
        due(what, got ? 1 : 0, want ? 1 : 0);
    }

    static void due(String what, String got, String want) {
        asked++;
        if (!got.equals(want)) {
            wrong++;
            System.out.println(test + what + ": seen is\n" + got + "\ndue is\n" + want);
        }
    }

    /** Puts a text behind the tape. */
    static void tape(CradlePairs x, String text) {
        int room = (20 - text.length() % 20) % 20;
        StringBuilder b = new StringBuilder(text);
        for (int i = 0; i < room; i++) {
            b.append('#');
        }
        for (int at = 0; at < b.length(); at += 20) {
            int[] v = new int[5];
            for (int i = 0; i < 20; i++) {
                v[i / 4] = v[i / 4] << 8 | b.charAt(at + i) & 255;
            }
            x.feed(v[0], v[1], v[2], v[3], v[4]);
        }
        x.back(room);
    }

    /** A new object that has read a right text. */
    static CradlePairs told(String text) {
        CradlePairs x = new CradlePairs();
        tape(x, text);
        due("read of " + text, x.read(), 0);
        return x;
    }

    /** A text has the fault (0: none) at the place, its tape is empty then, and the text ahead stays if there is a fault. */
    static void fault(String text, int number, int place) {
        CradlePairs x = told("speaker old 7;tilt 4;seed 12;");
        tape(x, text);
        String shown = text.length() > 60 ? text.substring(0, 60) + ".." : text;
        due("read of " + shown, x.read(), number);
        due("place in " + shown, x.place(), place);
        due("the tape behind " + shown, x.count(8), 0);
        if (number != 0) {
            due("kept behind " + shown, x.speaker(0, 0) * 100 + x.count(2), 704);
        }
    }

    static void end(String name) {
        System.out.println(name + ": " + asked + " answers, " + wrong + " not as due");
        if (wrong != 0) {
            System.exit(1);
        }
    }
}
