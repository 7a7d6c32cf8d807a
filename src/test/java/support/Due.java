/** Says which answers are not the ones that are due. */
final class Due {
    private static int wrong;
    private static int asked;

    private Due() {
    }

    static void due(String what, int got, int want) {
        asked++;
        if (got != want) {
            wrong++;
            System.out.println(what + ": answered " + got + ", due is " + want);
        }
    }

    static void due(String what, boolean got, boolean want) {
        due(what, got ? 1 : 0, want ? 1 : 0);
    }

    /** Puts a text behind the tape. */
    static void tape(CradlePairs x, String text) {
        int room = (20 - text.length() % 20) % 20;
        StringBuilder b = new StringBuilder(text);
        for (int i = 0; i < room; i++) {
            b.append('#');
        }
        for (int at = 0; at < b.length(); at += 20) {
            int[] v = new int[5];
            for (int i = 0; i < 20; i++) {
                v[i / 4] = v[i / 4] << 8 | b.charAt(at + i) & 255;
            }
            x.feed(v[0], v[1], v[2], v[3], v[4]);
        }
        x.back(room);
    }

    /** A new object that has read a right text. */
    static CradlePairs told(String text) {
        CradlePairs x = new CradlePairs();
        tape(x, text);
        due("read of " + text, x.read(), 0);
        return x;
    }

    static void end(String name) {
        System.out.println(name + ": " + asked + " answers, " + wrong + " not as due");
        if (wrong != 0) {
            System.exit(1);
        }
    }
}
