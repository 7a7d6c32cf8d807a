/**
 * The boundary cases that the document names for what is TOLD, for SLOTS and for counts: promises 31 to 37. The sentence
 * that a test is of stands above it.
 */
public final class ToldBoundaryTest {
    private static final int MIN = Integer.MIN_VALUE;
    private static final int MAX = Integer.MAX_VALUE;
    private static final String TWO = "speaker a 1;speaker b 1;pair a b;";
    private static final String SIX = "word n 1;word o 2;word p 3;word q 4;word r 5;word s 6;";
    /** x, y, x to 19, 18, 20 or y, x, y, x to 11, 2, 3, 0. */
    private static final String SHORT = "word x 9;word y 1;";

    private static void due(String what, int got, int want) {
        Due.due(what, got, want);
    }

    private static void due(String what, boolean got, boolean want) {
        Due.due(what, got, want);
    }

    private static CradlePairs two(String more) {
        return Due.told(TWO + more);
    }

    private static CradlePairs nobody(String more) {
        return Due.told("speaker a 1;speaker b 1;" + more);
    }

    private static CradlePairs awake() {
        CradlePairs x = two(SIX + "pushes=9;tilt 19;");
        x.say(3);
        return x;
    }

    // ---- promise 31

    /** "behind i TURNS (1 .. 5)": "NONE, and nothing happens: .. no such ones." */
    static void p31_noSuchTurns() {
        CradlePairs x = two(SIX);
        for (int i : new int[] {MIN, -1, 0, 6, 7, MAX}) {
            due("i " + i, x.tell(i, 5, true), -1);
            due("i " + i + ", not so", x.tell(i, 5, false), -1);
        }
        due("none", x.count(10), 0);
        due("1", x.tell(1, 5, true), 0);
        due("5", x.tell(5, 5, true), 1);
    }

    /** "the SLOPE is v (0 .. 20) or more": "NONE, and nothing happens: .. no such ones." */
    static void p31_noSuchSlope() {
        CradlePairs x = two(SIX);
        for (int v : new int[] {MIN, -1, 21, 22, MAX}) {
            due("v " + v, x.tell(1, v, true), -1);
            due("v " + v + ", not so", x.tell(1, v, false), -1);
        }
        due("none", x.count(10), 0);
        due("0", x.tell(1, 0, true), 0);
        due("20", x.tell(1, 20, true), 1);
    }

    /** "20 at most, numbered from 0 on": "NONE, and nothing happens: 20 are there" */
    static void p31_twentyAtMost() {
        CradlePairs x = two(SIX);
        for (int i = 0; i < 20; i++) {
            due("its number", x.tell(1 + i % 5, i, true), i);
            due("so many", x.count(10), i + 1);
        }
        due("a 21st", x.tell(1, 5, true), -1);
        due("20 still", x.count(10), 20);
        due("known by all", x.rows(20, 5, 0) >= 0, true);
        due("not by one more", x.rows(21, 5, 0), -1);
        x.forget();
        due("room again", x.tell(1, 5, true), 0);
    }

    /** "NONE, and nothing happens": also to what is TOLD already. */
    static void p31_nothingHappens() {
        Seen.nothingHappens(Seen::busy, x -> {
            x.tell(0, 5, true);
            x.tell(6, 5, false);
            x.tell(1, -1, false);
            x.tell(1, 21, true);
        });
        CradlePairs x = two(SHORT);
        for (int i = 0; i < 20; i++) {
            x.tell(1, 11, true);
        }
        due("two fit", x.rows(20, 1, 0), 2);
        x.tell(1, 12, true);
        due("two fit still", x.rows(20, 1, 0), 2);
    }

    /** "It is TOLD": no thing done; with nobody there and with the child awake, too. */
    static void p31_whenever() {
        CradlePairs x = awake();
        due("awake", x.tell(1, 20, true), 0);
        due("things", x.count(9), 1);
        due("nobody", new CradlePairs().tell(5, 0, false), 0);
    }

    /** "nothing is TOLD" behind a right text; it stays behind one with a FAULT. */
    static void p31_byTexts() {
        CradlePairs x = two(SIX);
        x.tell(1, 5, true);
        Due.tape(x, "#");
        x.read();
        due("stays", x.count(10), 1);
        x.read();
        due("gone", x.count(10), 0);
        due("from 0 on", x.tell(1, 5, true), 0);
    }

    // ---- promise 32

    /** "All that was TOLD is forgotten: how many there were.": none, one, 20. */
    static void p32_howMany() {
        CradlePairs x = two(SIX);
        due("none", x.forget(), 0);
        x.tell(1, 5, true);
        due("one", x.forget(), 1);
        due("none again", x.forget(), 0);
        for (int i = 0; i < 22; i++) {
            x.tell(1, 5, true);
        }
        due("twenty", x.forget(), 20);
        due("none left", x.count(10), 0);
        due("not known", x.rows(1, 1, 0), -1);
        due("from 0 on", x.tell(2, 5, true), 0);
    }

    /** "All that was TOLD": nothing else. */
    static void p32_nothingElse() {
        Seen.nothingHappens(() -> {
            CradlePairs x = Seen.busy();
            x.forget();
            return x;
        }, x -> due("none", x.forget(), 0));
        CradlePairs x = Seen.busy();
        int things = x.count(9);
        due("two", x.forget(), 2);
        due("things", x.count(9), things);
        due("slots", x.count(11), 2);
        due("tape", x.count(8), 19);
    }

    // ---- promise 33

    /** "KNOWN by k: the first k", "NONE: no such ones." */
    static void p33_noSuchK() {
        CradlePairs x = two(SHORT);
        x.tell(1, 12, true);
        x.tell(1, 12, false);
        for (int k : new int[] {MIN, -1, 3, 20, MAX}) {
            due("k " + k, x.rows(k, 1, 0), -1);
            due("k " + k + ", the first", x.rows(k, 1, 1), -1);
        }
        due("0", x.rows(0, 1, 0), 2);
        due("1", x.rows(1, 1, 0), 1);
        due("2", x.rows(2, 1, 0), 0);
        due("1 of none", two(SHORT).rows(1, 1, 0), -1);
    }

    /** "ROWS of l (1 .. 5)", "NONE: no such ones." */
    static void p33_noSuchL() {
        CradlePairs x = two("");
        for (int l : new int[] {MIN, -1, 0, 6, MAX}) {
            due("l " + l, x.rows(0, l, 0), -1);
            due("l " + l + ", the first", x.rows(0, l, 1), -1);
            due("l " + l + " of nobody", new CradlePairs().rows(0, l, 0), -1);
        }
        due("1", x.rows(0, 1, 0), 1);
        due("5", x.rows(0, 5, 0), 1);
    }

    /** "what 0 how many FIT, 1 the first", "NONE: no such ones." */
    static void p33_noSuchWhat() {
        CradlePairs x = two(SHORT);
        for (int what : new int[] {MIN, -1, 2, 3, MAX}) {
            due("what " + what, x.rows(0, 1, what), -1);
            due("what " + what + " of nobody", new CradlePairs().rows(0, 1, what), -1);
        }
    }

    /** "1 the first (-2: none)": nobody there, awake, none FIT. */
    static void p33_none() {
        CradlePairs[] all = {new CradlePairs(), nobody(SIX), awake()};
        for (CradlePairs x : all) {
            for (int l = 1; l <= 5; l++) {
                due("how many", x.rows(0, l, 0), 0);
                due("the first", x.rows(0, l, 1), -2);
            }
        }
        CradlePairs x = two(SHORT);
        x.tell(1, 20, true);
        due("how many", x.rows(1, 1, 0), 0);
        due("the first", x.rows(1, 1, 1), -2);
    }

    /** "(ASLEEP ahead of each)": the last turn may wake it, none ahead of that. */
    static void p33_asleepAheadOfEach() {
        CradlePairs x = two(SHORT);
        int[] fit = {2, 2, 2, 1, 0};
        for (int l = 1; l <= 5; l++) {
            due("of " + l, x.rows(0, l, 0), fit[l - 1]);
        }
        CradlePairs y = two(SIX + "tilt 19;");
        due("all wake it", y.rows(0, 1, 0), 6);
        due("none goes on", y.rows(0, 2, 0), 0);
    }

    /** "how many FIT": as many as there can be. */
    static void p33_howMany() {
        CradlePairs x = two(SIX + "pushes=0;");
        int rows = 6;
        for (int l = 1; l <= 5; l++) {
            due("of " + l, x.rows(0, l, 0), rows);
            rows *= 5;
        }
    }

    /** "the SLOPE is v (0 .. 20) or more, or is not": each edge. */
    static void p33_orMore() {
        for (int v = 0; v <= 20; v++) {
            CradlePairs x = two("word x 3;word y 3;");
            x.tell(1, v, true);
            due("13 is " + v + " or more", x.rows(1, 1, 0), v <= 13 ? 2 : 0);
            x.forget();
            x.tell(1, v, false);
            due("13 is not " + v + " or more", x.rows(1, 1, 0), v <= 13 ? 0 : 2);
        }
    }

    /** "v (0 .. 20)": 0 is so of all, 20 of those alone that wake it so. */
    static void p33_leastAndMost() {
        CradlePairs x = two("word x 1;word y 0;word z 9;tilt 19;");
        x.tell(1, 20, true);
        due("by x and z", x.rows(1, 1, 0), 2);
        due("x first", x.rows(1, 1, 1), 0);
        x.forget();
        x.tell(1, 20, false);
        due("by y", x.rows(1, 1, 0), 1);
        due("y", x.rows(1, 1, 1), 1);
        x.forget();
        x.tell(1, 0, true);
        due("all", x.rows(1, 1, 0), 3);
        x.forget();
        x.tell(1, 0, false);
        due("none", x.rows(1, 1, 0), 0);
        CradlePairs y = two("word x 9;word y 9;pushes=side*9;tilt 9;");
        y.tell(2, 0, true);
        due("at 0, too", y.rows(1, 2, 0), 2);
        y.tell(2, 1, true);
        due("not 1", y.rows(2, 2, 0), 0);
    }

    /** "of more than l TURNS nothing is so, nor not so: such a row does not FIT" */
    static void p33_ofMoreThanL() {
        for (int i = 1; i <= 5; i++) {
            CradlePairs x = two("");
            x.tell(i, 0, true);
            CradlePairs y = two("");
            y.tell(i, 20, false);
            for (int l = 1; l <= 5; l++) {
                due("behind " + i + ", of " + l, x.rows(1, l, 0), i <= l ? 1 : 0);
                due("not so behind " + i + ", of " + l, y.rows(1, l, 0), i <= l ? 1 : 0);
                due("not known behind " + i, x.rows(0, l, 0), 1);
                due("the first", y.rows(1, l, 1) == -2, i > l);
            }
        }
    }

    /** "KNOWN by k: the first k": in the order in which it was TOLD. */
    static void p33_theFirstOnes() {
        CradlePairs x = two(SIX);
        int[] fit = {6, 5, 4, 3, 2, 1, 0};
        for (int i = 0; i < 6; i++) {
            x.tell(1, 12 + i, true);
        }
        for (int k = 0; k <= 6; k++) {
            due("known by " + k, x.rows(k, 1, 0), fit[k]);
        }
        due("the first known by 3", x.rows(3, 1, 1), 3);
    }

    /** "the first, by the WORD first taken (6: PASSED), then the next one: 7 times what its WORDS so far come to and the WORD" */
    static void p33_theFirst() {
        int[] naughts = {0, 1, 7, 50, 350};
        int[] passes = {6, 48, 342, 2400, 16806};
        CradlePairs x = two(SIX + "pushes=0;");
        CradlePairs y = two("");
        for (int l = 1; l <= 5; l++) {
            due("of six, " + l, x.rows(0, l, 1), naughts[l - 1]);
            due("passing, " + l, y.rows(0, l, 1), passes[l - 1]);
        }
        CradlePairs z = two(SIX);
        z.tell(1, 16, true);
        due("the sixth", z.rows(1, 1, 1), 5);
        due("the sixth, the first", z.rows(1, 2, 1), 35);
        z.tell(2, 12, false);
        due("the sixth, the fifth", z.rows(2, 2, 1), 5 * 7 + 4);
        CradlePairs w = two("word x 1;");
        due("x, then to pass", w.rows(0, 2, 1), 6);
        due("x, to pass, x", w.rows(0, 3, 1), 42);
    }

    /** "taken from now on": what is TOLD is of the turns behind now, whenever that is. */
    static void p33_fromNowOn() {
        CradlePairs x = two(SHORT);
        x.tell(1, 19, true);
        due("x", x.rows(1, 1, 0), 1);
        x.say(0);
        due("18 is not", x.rows(1, 1, 0), 0);
        x.undo();
        due("x again", x.rows(1, 1, 0), 1);
    }

    // ---- promise 34

    /** "NONE: no such ones." */
    static void p34_noSuchOnes() {
        CradlePairs x = two(SIX);
        x.tell(1, 5, true);
        CradlePairs[] all = {x, new CradlePairs(), awake()};
        for (CradlePairs each : all) {
            for (int k : new int[] {MIN, -1, 2, 21, MAX}) {
                due("k " + k, each.listen(k, 1, 5), -1);
            }
            for (int l : new int[] {MIN, -1, 0, 6, MAX}) {
                due("l " + l, each.listen(0, l, 5), -1);
            }
            for (int v : new int[] {MIN, -1, 21, MAX}) {
                due("v " + v, each.listen(0, 1, v), -1);
            }
        }
        due("k 1", x.listen(1, 1, 5), 1);
        due("k 1 of none", all[1].listen(1, 1, 5), -1);
        due("v 0", x.listen(0, 1, 0), 1);
        due("v 20", x.listen(0, 1, 20), 1);
        due("l 5", x.listen(0, 5, 0), 1);
    }

    /** "-2: none FIT": nobody there, awake, nothing fits, of more than l. */
    static void p34_noneFit() {
        for (int l = 1; l <= 5; l++) {
            due("nobody", nobody(SIX).listen(0, l, 10), -2);
            due("awake", awake().listen(0, l, 10), -2);
        }
        CradlePairs x = two(SHORT);
        due("no row of five", x.listen(0, 5, 10), -2);
        due("one of four", x.listen(0, 4, 10), 1);
        x.tell(2, 0, true);
        due("known of more than l", x.listen(1, 1, 10), -2);
        x.tell(1, 20, true);
        due("none so", x.listen(2, 2, 10), -2);
    }

    /** "the i (1 .. l) of which, once it is told so of v, fewest are left, at worst": either way it may be told. */
    static void p34_fewestAtWorst() {
        // behind one turn 11 .. 16, behind two 11 - 6 .. 16 - 1
        CradlePairs x = two(SIX);
        due("15 and 15 behind one, 3 and 27 behind two", x.listen(0, 2, 14), 1);
        due("30 and 0 behind one, 15 and 15 behind two", x.listen(0, 2, 10), 2);
        due("5 and 25 behind one, 0 and 30 behind two", x.listen(0, 2, 16), 1);
        due("20 and 10 behind one, 6 and 24 behind two", x.listen(0, 2, 13), 1);
    }

    /** "the i (1 .. l)": the last one, but none beyond l. */
    static void p34_upToL() {
        // LEFT comes to 11, 12, 13 or to 12, 14, 16, and RIGHT changes nothing
        CradlePairs x = two("word x 1;word y 2;pushes=if side<1 then force else 0;");
        due("the fifth", x.listen(0, 5, 15), 5);
        due("not of four", x.listen(0, 4, 15), 1);
        due("the third", x.listen(0, 5, 13), 3);
        due("not of two", x.listen(0, 2, 13), 1);
        due("the first", x.listen(0, 5, 12), 1);
    }

    /** "of alike ones the first" */
    static void p34_alikeOnes() {
        CradlePairs x = two(SIX);
        due("all so", x.listen(0, 5, 0), 1);
        due("none so", x.listen(0, 2, 20), 1);
        CradlePairs y = two("word x 1;word y 2;pushes=if side<1 then force else 0;");
        due("the third and the fourth", y.listen(0, 4, 13), 3);
        due("passing", two("").listen(0, 5, 10), 1);
    }

    /** "as KNOWN by k" */
    static void p34_asKnown() {
        CradlePairs x = two(SIX);
        x.tell(1, 14, true);
        due("not known", x.listen(0, 2, 14), 1);
        due("known", x.listen(1, 2, 14), 2);
        Seen.nothingHappens(Seen::busy, y -> {
            y.rows(1, 3, 0);
            y.rows(2, 3, 1);
            y.listen(2, 3, 9);
            y.listen(3, 3, 9);
        });
    }

    // ---- promise 35

    /** "held in a SLOT (0 .. 2): true; false: no such one." */
    static void p35_noSuchSlot() {
        CradlePairs x = two(SIX);
        for (int slot : new int[] {MIN, -1, 3, 4, MAX}) {
            due("slot " + slot, x.hold(slot), false);
        }
        due("none holds", x.count(11), 0);
        for (int slot = 0; slot < 3; slot++) {
            due("slot " + slot, x.hold(slot), true);
            due("so many hold", x.count(11), slot + 1);
        }
        Seen.nothingHappens(Seen::busy, y -> {
            y.hold(-1);
            y.hold(3);
            y.hold(MIN);
            y.hold(MAX);
        });
    }

    /** "All that goes on .. is held": in place of what was held there; no thing done. */
    static void p35_inPlace() {
        CradlePairs x = two(SIX);
        x.hold(1);
        x.say(2);
        x.hold(1);
        x.say(0);
        due("one slot", x.count(11), 1);
        due("two things", x.count(9), 2);
        due("undo", x.undo(), true);
        due("restore", x.restore(1), true);
        due("what was held last", x.count(2), 13);
        due("a new one", new CradlePairs().hold(0), true);
    }

    /** "All that goes on": the slope, the turn, the last, the pair, the minute, what was paid, how often hired. */
    static void p35_allThatGoesOn() {
        CradlePairs x = Due.told("speaker a 1;speaker b 2;speaker c 3;" + SIX + "pair a b;tilt 8;");
        x.hire(2, 1);
        x.minutes(3);
        x.hold(0);
        String held = Seen.of(x).replaceFirst("count.*", "");
        int[] counts = new int[8];
        for (int what = 2; what <= 7; what++) {
            counts[what] = x.count(what);
        }
        x.hire(0, 2);
        x.minutes(10);
        x.set();
        x.hold(1);
        due("restore", x.restore(0), true);
        for (int what = 2; what <= 7; what++) {
            due("count " + what, x.count(what), counts[what]);
        }
        due("paid", x.count(12), 5);
        Due.due("as it was held", Seen.of(x).replaceFirst("count.*", ""), held);
    }

    /** "All that goes on": how often each of five was hired. */
    static void p35_eachSpeaker() {
        CradlePairs x = Due.told("speaker a 1;speaker b 2;speaker c 3;speaker d 4;speaker e 5;");
        for (int i = 0; i < 5; i++) {
            x.hire(i, (i + 1) % 5);
        }
        x.hold(2);
        for (int i = 0; i < 5; i++) {
            x.hire((i + 1) % 5, i);
        }
        x.restore(2);
        for (int i = 0; i < 5; i++) {
            due("hired twice", x.speaker(i, 2), 2);
        }
        due("paid", x.count(12), 30);
    }

    /** "(not what is TOLD, nor the tape)" */
    static void p35_notWhatIsTold() {
        CradlePairs x = two(SIX);
        x.tell(1, 5, true);
        x.feed(0, 0, 0, 0, 0);
        x.hold(0);
        x.tell(2, 6, true);
        x.feed(0, 0, 0, 0, 0);
        x.restore(0);
        due("TOLD", x.count(10), 2);
        due("tape", x.count(8), 40);
        x.forget();
        x.back(40);
        x.restore(0);
        due("nothing TOLD", x.count(10), 0);
        due("nothing on the tape", x.count(8), 0);
    }

    // ---- promise 36

    /** "false, and nothing happens: no such one" */
    static void p36_noSuchSlot() {
        CradlePairs x = Seen.busy();
        for (int slot : new int[] {MIN, -1, 3, 4, MAX}) {
            due("slot " + slot, x.restore(slot), false);
        }
        Seen.nothingHappens(Seen::busy, y -> {
            y.restore(-1);
            y.restore(3);
            y.restore(MIN);
            y.restore(MAX);
        });
    }

    /** "false, and nothing happens: .. nothing is held." */
    static void p36_nothingIsHeld() {
        for (int slot = 0; slot < 3; slot++) {
            due("a new one", new CradlePairs().restore(slot), false);
            CradlePairs x = two(SIX);
            x.say(0);
            x.hold((slot + 1) % 3);
            due("in another one", x.restore(slot), false);
            due("things", x.count(9), 1);
        }
        Seen.nothingHappens(Seen::busy, y -> y.restore(1));
    }

    /** "SLOTS hold nothing" behind a right text; they do behind one with a FAULT. */
    static void p36_byTexts() {
        CradlePairs x = two(SIX);
        for (int slot = 0; slot < 3; slot++) {
            x.hold(slot);
        }
        Due.tape(x, "#");
        x.read();
        due("three", x.count(11), 3);
        due("restore", x.restore(2), true);
        x.read();
        due("none", x.count(11), 0);
        for (int slot = 0; slot < 3; slot++) {
            due("slot " + slot, x.restore(slot), false);
        }
    }

    /** "(that stays there; nothing can be undone then)" */
    static void p36_staysThere() {
        CradlePairs x = two(SIX);
        x.say(2);
        x.hold(0);
        x.say(0);
        for (int i = 0; i < 3; i++) {
            due("restore", x.restore(0), true);
            due("slope", x.count(2), 13);
            due("nothing to be undone", x.count(9), 0);
            due("undo", x.undo(), false);
            due("it holds still", x.count(11), 1);
            x.say(1);
            x.minutes(5);
        }
        due("what is done then can be undone", x.undo(), true);
    }

    /** "nothing can be undone then": also if forty things could be. */
    static void p36_nothingUndone() {
        CradlePairs x = new CradlePairs();
        x.hold(1);
        for (int i = 0; i < 50; i++) {
            x.minutes(1);
        }
        due("restore", x.restore(1), true);
        due("none", x.undo(), false);
        due("minute", x.count(7), 0);
        for (int i = 0; i < 41; i++) {
            x.minutes(2);
        }
        due("forty again", x.count(9), 40);
        for (int i = 0; i < 40; i++) {
            due("undo", x.undo(), true);
        }
        due("none", x.undo(), false);
        due("the first stays", x.count(7), 2);
    }

    /** "It goes on from what a SLOT holds": by the pair that it holds, or by nobody. */
    static void p36_goesOn() {
        CradlePairs x = nobody("word x 1;word y 1;");
        x.hold(0);
        x.hire(0, 1);
        x.hold(2);
        x.say(0);
        due("nobody", x.restore(0), true);
        due("LEFT", x.count(5), -2);
        due("say", x.say(0), -1);
        due("who", x.who(), 0);
        due("reach", x.reach(), 1);
        due("the two", x.restore(2), true);
        due("reach", x.reach() > 1, true);
        due("say", x.say(0), 11);
        due("hired", x.speaker(0, 2), 1);
    }

    // ---- promise 37

    /** "NONE for others." */
    static void p37_noSuchWhat() {
        CradlePairs[] all = {new CradlePairs(), Seen.busy(), awake()};
        for (CradlePairs x : all) {
            for (int what : new int[] {MIN, -13, -2, -1, 14, 15, 100, MAX}) {
                due("count " + what, x.count(what), -1);
            }
        }
    }

    /** "0 SPEAKERS, 1 WORDS": none, all. */
    static void p37_speakersAndWords() {
        due("no speakers", Due.told(SIX).count(0), 0);
        due("six words", Due.told(SIX).count(1), 6);
        CradlePairs five = Due.told("speaker a 1;speaker b 1;speaker c 1;speaker d 1;speaker e 1;");
        due("five", five.count(0), 5);
        due("no words", five.count(1), 0);
    }

    /** "2 the SLOPE, 3 whose TURN (0 LEFT, 1 RIGHT), 4 the LAST (-2: none)" */
    static void p37_standing() {
        CradlePairs x = two(SIX);
        due("none", x.count(4), -2);
        due("LEFT", x.count(3), 0);
        x.say(0);
        due("the first", x.count(4), 0);
        due("RIGHT", x.count(3), 1);
        x.say(5);
        due("the sixth", x.count(4), 5);
        due("5", x.count(2), 5);
        due("20", awake().count(2), 20);
        CradlePairs y = two("word x 9;word y 9;pushes=side*9;tilt 9;");
        y.say(0);
        y.say(1);
        due("0", y.count(2), 0);
    }

    /** "5 who is LEFT, 6 RIGHT (-2: nobody)" */
    static void p37_leftAndRight() {
        CradlePairs x = Due.told("speaker a 1;speaker b 1;speaker c 1;speaker d 1;speaker e 1;");
        due("nobody", x.count(5) + x.count(6), -4);
        x.hire(0, 4);
        due("LEFT", x.count(5), 0);
        due("RIGHT", x.count(6), 4);
        x.hire(4, 0);
        due("LEFT", x.count(5), 4);
        due("RIGHT", x.count(6), 0);
    }

    /** "7 the minute, 8 bytes on the tape, 9 things that can be undone, 10 TOLD ones, 11 SLOTS .., 12 what was paid": none, most. */
    static void p37_noneAndMost() {
        CradlePairs x = Due.told("speaker a 1;speaker b 1;wages=99;");
        for (int what = 7; what <= 12; what++) {
            due("none of " + what, x.count(what), 0);
        }
        for (int i = 0; i < 101; i++) {
            x.feed(0, 0, 0, 0, 0);
        }
        for (int i = 0; i < 41; i++) {
            x.hire(i % 2, 1 - i % 2);
        }
        for (int i = 0; i < 21; i++) {
            x.tell(1, 1, true);
        }
        for (int slot = 0; slot < 4; slot++) {
            x.hold(slot);
        }
        x.minutes(200);
        int[] most = {200, 2000, 40, 20, 3, 41 * 198};
        for (int what = 7; what <= 12; what++) {
            due("most of " + what, x.count(what), most[what - 7]);
        }
    }

    /** "13 WORDS that CAN be SAID now (bits)": none, each, all. */
    static void p37_wordsThatCan() {
        due("all", two(SIX).count(13), 63);
        due("nobody", nobody(SIX).count(13), 0);
        due("awake", awake().count(13), 0);
        due("no words", two("").count(13), 0);
        due("they would none", two(SIX + "bars=1;").count(13), 0);
        for (int word = 0; word < 6; word++) {
            CradlePairs x = two(SIX);
            x.say(word);
            due("all but the LAST", x.count(13), 63 - (1 << word));
            String bars = "bars=if which<" + word + " then 1 else if " + word + "<which then 1 else 0;";
            due("one alone", two(SIX + bars).count(13), 1 << word);
        }
    }

    public static void main(String[] args) throws ReflectiveOperationException {
        Each.run(ToldBoundaryTest.class, 31, 37);
    }
}
