import java.util.function.Consumer;
import java.util.function.Supplier;

/** What can be seen of an object, as a text to compare. */
final class Seen {
    private Seen() {
    }

    /** Without changing anything: in fewer than 70 calls. */
    static String of(CradlePairs x) {
        StringBuilder b = new StringBuilder("count");
        for (int what = 0; what <= 13; what++) {
            b.append(' ').append(x.count(what));
        }
        for (int speaker = 0; speaker < 5; speaker++) {
            b.append("\nspeaker ").append(speaker);
            for (int what = 0; what <= 2; what++) {
                b.append(' ').append(x.speaker(speaker, what));
            }
        }
        for (int word = 0; word < 6; word++) {
            b.append("\nword ").append(word);
            for (int what = 0; what <= 3; what++) {
                b.append(' ').append(x.word(word, what));
            }
        }
        int known = x.count(10);
        b.append("\nrows");
        for (int l = 1; l <= 5; l++) {
            b.append(' ').append(x.rows(known, l, 0));
        }
        b.append("\nslope in");
        for (int n = 1; n <= 5; n++) {
            b.append(' ').append(x.slopeIn(n));
        }
        return b.append('\n').toString();
    }

    /** With all that can be undone, all that is held and what is on the tape; the object is of no more use then. */
    static String whole(CradlePairs x) {
        StringBuilder b = new StringBuilder(of(x));
        for (int things = x.count(9); things > 0; things--) {
            b.append("undone ").append(x.undo()).append(brief(x));
        }
        for (int slot = 0; slot < 3; slot++) {
            b.append("slot ").append(slot).append(' ').append(x.restore(slot)).append(brief(x));
        }
        b.append("the tape read ").append(x.read()).append(" at ").append(x.place()).append(brief(x));
        return b.toString();
    }

    private static String brief(CradlePairs x) {
        StringBuilder b = new StringBuilder(":");
        for (int what = 2; what <= 7; what++) {
            b.append(' ').append(x.count(what));
        }
        return b.append(' ').append(x.count(12)).append('\n').toString();
    }

    /** An object in the midst of things: said, paid, hired, gone by, told, held, to be undone, on the tape. */
    static CradlePairs busy() {
        CradlePairs x = Due.told("speaker a 3;speaker b 7;speaker c 2;word n 1;word o 2;word p 3;pair a b;"
            + "tilt 8;seed 77;wages=tongue+slope;bars=if slope<9 then 0 else which-1;rests=1;");
        x.say(2);
        x.hold(0);
        x.hire(1, 2);
        x.minutes(3);
        x.hold(2);
        x.hire(2, 0);
        x.say(0);
        x.tell(1, 9, true);
        x.tell(2, 5, false);
        Due.tape(x, "speaker d 4;tilt 6;");
        return x;
    }

    /** Of two alike objects one takes some calls, the other one does not: they must stay alike. */
    static void nothingHappens(Supplier<CradlePairs> made, Consumer<CradlePairs> calls) {
        CradlePairs x = made.get();
        CradlePairs alike = made.get();
        calls.accept(x);
        Due.due("the place stays", x.place(), alike.place());
        Due.due("nothing happens", whole(x), whole(alike));
    }
}
