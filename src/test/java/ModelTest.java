import java.util.Random;

/** Runs by seeds: many texts, right and wrong, and many calls, answered by the class as by the model. */
public final class ModelTest {
    private static final String[] VARS = {"force", "tongue", "slope", "last", "side", "which", "other", "words", "same"};
    private static final String[] SIGNS = {"+", "-", "*", "/"};
    private static final String[] PIECES = {"speaker", "word", "pair", "pushes", "wages", "rests", "bars", "tilt", "seed",
        "if", "then", "else", "force", "tongue", "slope", "last", "a", "b", "zz", "abcdefgh", "abcdefghi", "1", "12", "9999",
        "12345", "0", ";", "=", "+", "-", "*", "/", "<", "(", ")", ".", "#", "A", "\t", "\n", "\r", "\u00e9", "\0"};

    private final Random r;

    private ModelTest(long seed) {
        r = new Random(seed);
    }

    private String blank() {
        return r.nextInt(9) == 0 ? "\n\t" : r.nextInt(40) == 0 ? "\r " : " ";
    }

    private String unit(int depth) {
        int n = r.nextInt(10);
        if (n < 6) {
            return VARS[r.nextInt(VARS.length)];
        }
        if (n == 9 && depth < 6) {
            return "(" + sum(depth + 1) + ")";
        }
        return Integer.toString(r.nextInt(r.nextInt(6) == 0 ? 10000 : 12));
    }

    private String product(int depth) {
        StringBuilder b = new StringBuilder(unit(depth));
        while (r.nextInt(4) == 0) {
            b.append(SIGNS[2 + r.nextInt(2)]).append(unit(depth));
        }
        return b.toString();
    }

    private String sum(int depth) {
        StringBuilder b = new StringBuilder(product(depth));
        while (r.nextInt(3) == 0) {
            b.append(SIGNS[r.nextInt(2)]).append(product(depth));
        }
        return b.toString();
    }

    private String law(String name) {
        StringBuilder b = new StringBuilder(name).append("=");
        for (int ifs = r.nextInt(3) == 0 ? r.nextInt(5) : r.nextInt(2); ifs > 0; ifs--) {
            b.append("if ").append(sum(0)).append("<").append(sum(0)).append(" then ").append(sum(0)).append(" else ");
        }
        return b.append(sum(0)).append(";").toString();
    }

    private String text() {
        StringBuilder b = new StringBuilder();
        int speakers = 2 + r.nextInt(4);
        int words = r.nextInt(7);
        for (int i = 0; i < speakers; i++) {
            b.append("speaker").append(blank()).append((char) ('a' + i)).append(blank()).append(r.nextInt(10)).append(";");
        }
        int most = 1 + r.nextInt(9);
        for (int i = 0; i < words; i++) {
            b.append("word").append(blank()).append((char) ('n' + i)).append(blank()).append(r.nextInt(most + 1)).append(";");
        }
        if (r.nextInt(8) != 0) {
            int left = r.nextInt(speakers);
            int right = (left + 1 + r.nextInt(speakers - 1)) % speakers;
            b.append("pair ").append((char) ('a' + left)).append(" ").append((char) ('a' + right)).append(";");
        }
        if (r.nextInt(2) == 0) {
            b.append(law("pushes"));
        }
        if (r.nextInt(3) == 0) {
            b.append(law("wages"));
        }
        if (r.nextInt(2) == 0) {
            b.append(law("rests"));
        }
        if (r.nextInt(2) == 0) {
            b.append(law("bars"));
        }
        if (r.nextInt(2) == 0) {
            b.append("tilt ").append(1 + r.nextInt(19)).append(";");
        }
        if (r.nextInt(2) == 0) {
            b.append("seed ").append(r.nextInt(10000)).append(";");
        }
        if (r.nextInt(6) == 0) {
            b.append(law("pushes"));
        }
        return b.toString();
    }

    private String spoiled(String text) {
        StringBuilder b = new StringBuilder(text);
        for (int n = 1 + r.nextInt(2); n > 0; n--) {
            int at = r.nextInt(b.length() + 1);
            switch (r.nextInt(4)) {
                case 0 -> b.insert(at, PIECES[r.nextInt(PIECES.length)]);
                case 1 -> b.insert(at, " " + PIECES[r.nextInt(PIECES.length)] + " ");
                case 2 -> b.delete(at, Math.min(b.length(), at + 1 + r.nextInt(6)));
                default -> b.setLength(at);
            }
        }
        return b.toString();
    }

    private String pieces() {
        StringBuilder b = new StringBuilder();
        for (int n = r.nextInt(12); n > 0; n--) {
            b.append(PIECES[r.nextInt(PIECES.length)]).append(r.nextBoolean() ? " " : "");
        }
        return b.toString();
    }

    /** Mostly a number that means something, sometimes one far off. */
    private int number(int most) {
        int n = r.nextInt(60);
        return n == 0 ? Integer.MIN_VALUE : n == 1 ? Integer.MAX_VALUE : n == 2 ? -2 : r.nextInt(most + 3) - 1;
    }

    private void call(Both both) {
        int which = r.nextInt(3) == 0 ? 10 + r.nextInt(23) : r.nextInt(2) == 0 ? r.nextInt(10) : r.nextInt(2);
        int[] most = switch (which) {
            case 0, 21 -> new int[] {6, 0, 0};
            case 2, 22 -> new int[] {4, 4, 0};
            case 4, 25 -> new int[] {r.nextInt(3) == 0 ? 200 : 8, 0, 0};
            case 6, 7 -> new int[] {2, 0, 0};
            case 8 -> new int[] {5, 20, 0};
            case 14 -> new int[] {40, 0, 0};
            case 15, 16 -> new int[] {r.nextInt(8) == 0 ? 7 : 5, 0, 0};
            case 23 -> new int[] {4, 0, 0};
            case 24 -> new int[] {1, 0, 0};
            case 26 -> new int[] {r.nextInt(3) == 0 ? 200 : 8, 20, 0};
            case 27 -> new int[] {4, r.nextInt(4) == 0 ? 5 : 3, 1};
            case 28 -> new int[] {4, r.nextInt(4) == 0 ? 5 : 3, 20};
            case 29 -> new int[] {4, 2, 0};
            case 30 -> new int[] {5, 3, 0};
            default -> new int[] {13, 0, 0};
        };
        both.call(which, number(most[0]), number(most[1]), number(most[2]), r.nextBoolean());
    }

    /** Nothing is due of an object beyond so many calls. */
    private static final int CALLS_MOST = 512;

    private int run(int seed) {
        Both both = new Both();
        for (int part = 0; part < 6 && both.wrong == 0; part++) {
            int kind = r.nextInt(10);
            String text = kind < 7 ? text() : kind < 9 ? spoiled(text()) : pieces();
            int calls = 3 + text.length() / 20 + Both.GLANCE + 60 + Both.LOOK;
            if (both.calls + calls > CALLS_MOST) {
                break;
            }
            both.text(text.length() > 2000 ? text.substring(0, 2000) : text);
            both.glance();
            for (int i = 0; i < 60 && both.wrong == 0; i++) {
                call(both);
            }
            if (part % 2 == 0) {
                both.look();
            }
        }
        if (both.wrong > 0) {
            System.out.println("seed " + seed + ":\n" + both.log);
        }
        return both.wrong;
    }

    /** Texts alone: many more faults than the runs come to. */
    private int faults() {
        Both both = new Both();
        for (int i = 0; i < 30 && both.wrong == 0; i++) {
            String text = r.nextInt(4) == 0 ? pieces() : spoiled(text());
            if (both.calls + 4 + text.length() / 20 > CALLS_MOST) {
                break;
            }
            both.text(text.length() > 2000 ? text.substring(0, 2000) : text);
        }
        if (both.wrong > 0) {
            System.out.println(both.log);
        }
        return both.wrong;
    }

    public static void main(String[] args) {
        int from = args.length > 0 ? Integer.parseInt(args[0]) : 0;
        int to = args.length > 1 ? Integer.parseInt(args[1]) : 400;
        int wrong = 0;
        for (int seed = from; seed < to && wrong == 0; seed++) {
            wrong += new ModelTest(seed).run(seed);
            for (int i = 0; i < 10; i++) {
                wrong += new ModelTest(1_000_000L + seed * 10L + i).faults();
            }
        }
        System.out.println(wrong == 0 ? "the class and the model answer alike" : wrong + " answers unlike the model's");
        if (wrong != 0) {
            System.exit(1);
        }
    }
}
