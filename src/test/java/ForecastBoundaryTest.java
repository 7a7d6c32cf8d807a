/**
 * The boundary cases that the document names for what would be, from the STANDING as it is now: promises 14 to 25. The
 * sentence that a test is of stands above it.
 */
public final class ForecastBoundaryTest {
    private static final int MIN = Integer.MIN_VALUE;
    private static final int MAX = Integer.MAX_VALUE;
    private static final String TWO = "speaker a 1;speaker b 1;pair a b;";
    private static final String SIX = "word n 1;word o 2;word p 3;word q 4;word r 5;word s 6;";
    private static final String NAUGHTS = "word n 0;word o 0;word p 0;word q 0;word r 0;word s 0;";
    /** Each says the word behind the other one's, and behind the sixth one passes: fourteen turns until LEFT says n again. */
    private static final String ROUND = NAUGHTS + "bars=if which<last then 1 else if last<which then 1 else 0;";
    /** LEFT pushes 1 by n alone: from TILT t it wakes by turn 1 + 14 * (19 - t). */
    private static final String LEFT_ROUND = ROUND + "pushes=if side+which<1 then 1 else 0;";
    /** RIGHT pushes 1 by n alone, first by turn 8: it wakes by turn 8 + 14 * (t - 1). */
    private static final String RIGHT_ROUND = ROUND + "pushes=if side*(1-which)<1 then 0 else 1;";
    /** As LEFT's, but at 19 RIGHT pushes 9 by n: from 10 to 10 in nine rounds. */
    private static final String RING = ROUND + "pushes=if side+which<1 then 1 else if side*(1-which)*slope<19 then 0 else 9;";
    /** x, y, x to 19, 18, 20 or y, x, y, x to 11, 2, 3, 0. */
    private static final String SHORT = "word x 9;word y 1;";

    private static void due(String what, int got, int want) {
        Due.due(what, got, want);
    }

    private static void due(String what, boolean got, boolean want) {
        Due.due(what, got, want);
    }

    private static CradlePairs two(String more) {
        return Due.told(TWO + more);
    }

    private static CradlePairs nobody(String more) {
        return Due.told("speaker a 1;speaker b 1;" + more);
    }

    private static CradlePairs leftWon() {
        CradlePairs x = two(SIX + "pushes=9;tilt 19;");
        x.say(3);
        return x;
    }

    private static CradlePairs rightWon() {
        CradlePairs x = two(SIX + "pushes=side*9;tilt 1;");
        x.say(3);
        x.say(0);
        return x;
    }

    // ---- promise 14

    /** "WHO (nobody there: 0" */
    static void p14_nobodyThere() {
        for (int tilt = 1; tilt <= 19; tilt++) {
            due("tilted " + tilt, nobody("word x 9;word y 9;tilt " + tilt + ";").who(), 0);
        }
    }

    /** "awake: who WON" */
    static void p14_awake() {
        due("LEFT", leftWon().who(), 1);
        due("RIGHT", rightWon().who(), 2);
        CradlePairs x = leftWon();
        x.minutes(3);
        due("LEFT still", x.who(), 1);
        x.set();
        due("SET, and LEFT would again", x.who(), 1);
    }

    /** "1 LEFT WINS, whatever the other one says, 2 RIGHT does, 0: neither can make it so": at once. */
    static void p14_atOnce() {
        due("to 20 just so", two("word x 1;tilt 19;").who(), 1);
        due("to 19 only, then RIGHT back", two("word x 9;word y 9;tilt 10;").who(), 0);
        due("to 20 just so by 9", two("word x 9;word y 9;tilt 11;").who(), 1);
        CradlePairs x = two("word x 9;word y 9;pushes=side*9;tilt 9;");
        due("RIGHT, whatever LEFT says", x.who(), 2);
        x.say(0);
        due("RIGHT at once", x.who(), 2);
        due("RIGHT to 1 only, then once more", two("word x 9;word y 9;pushes=side*9;tilt 10;").who(), 2);
    }

    /** "whatever the other one says": one word that saves is enough, unless they would not say it. */
    static void p14_whateverTheOtherSays() {
        String text = "word x 9;word y 1;word z 0;tilt 10;pushes=if side<1 then force else if which<2 then 0 else 9;";
        due("RIGHT goes back by z, LEFT comes again", two(text).who(), 0);
        due("RIGHT would not say z", two(text + "bars=if which<2 then 0 else side;").who(), 1);
        due("nor would LEFT", two(text + "bars=if which<2 then 0 else 1;").who(), 1);
    }

    /** "A TURN is taken: .., or, if there is none, one PASSES." */
    static void p14_passing() {
        due("both pass", two("tilt 19;").who(), 0);
        due("RIGHT passes, LEFT pushes", two("word x 1;bars=side;").who(), 1);
        due("LEFT passes, RIGHT pushes", two("word x 1;bars=1-side;").who(), 2);
        due("it rests as far as it was pushed", two("word x 1;bars=side;rests=1;").who(), 0);
        due("it rests too little", two("word x 2;bars=side;rests=1;").who(), 1);
    }

    /** "WHO": however far the end is. */
    static void p14_farOff() {
        due("LEFT in 253", two(LEFT_ROUND + "tilt 1;").who(), 1);
        due("RIGHT in 260", two(RIGHT_ROUND + "tilt 19;").who(), 2);
        due("never", two(RING).who(), 0);
    }

    // ---- promise 15

    /** "SOON (awake: 0)" */
    static void p15_awake() {
        due("LEFT", leftWon().soon(), 0);
        due("RIGHT", rightWon().soon(), 0);
    }

    /** "-2: neither WINS." */
    static void p15_neither() {
        due("nobody there", nobody("word x 9;tilt 19;").soon(), -2);
        due("a new one", new CradlePairs().soon(), -2);
        due("both pass", two("tilt 19;").soon(), -2);
        due("to and fro", two("word x 9;word y 9;tilt 10;").soon(), -2);
        due("round and round", two(RING).soon(), -2);
    }

    /** "SOON: behind how many TURNS": from 1 on. */
    static void p15_howMany() {
        due("1", two("word x 1;tilt 19;").soon(), 1);
        CradlePairs x = two("word x 9;word y 9;pushes=side*9;tilt 9;");
        due("2", x.soon(), 2);
        x.say(0);
        due("1 for RIGHT", x.soon(), 1);
        for (int tilt = 1; tilt <= 19; tilt++) {
            due("LEFT from " + tilt, two(LEFT_ROUND + "tilt " + tilt + ";").soon(), 1 + 14 * (19 - tilt));
            due("RIGHT from " + tilt, two(RIGHT_ROUND + "tilt " + tilt + ";").soon(), 8 + 14 * (tilt - 1));
        }
    }

    /** "if who WINS does so as soon as can be, and the other one puts it off as long as can be" */
    static void p15_asSoonAsAndAsLongAs() {
        due("by 9, not by 1", two("word x 1;word y 9;tilt 11;").soon(), 1);
        due("7 by 3 and 2", two("word x 2;word y 3;pushes=if side<1 then force else which;").soon(), 7);
        due("20 by 2 and 3", two("word x 2;word y 3;pushes=if side<1 then which else force;").soon(), 20);
        // by x RIGHT pushes 9 at once, by y and z 3 each time
        due("put off", two("word x 0;word y 0;word z 0;tilt 9;pushes=if side<1 then 0 else if last<2 then 9 else 3;").soon(), 6);
    }

    /** "behind how many TURNS": one turn ahead of it is one more, also where it is come to again. */
    static void p15_oneMore() {
        CradlePairs x = two("word x 0;word y 9;tilt 11;bars=side;");
        due("LEFT by y", x.soon(), 1);
        x.say(0);
        due("RIGHT passes, LEFT by y", x.soon(), 2);
        x.pass();
        due("LEFT by y again", x.soon(), 1);
    }

    // ---- promise 16

    /** "-2: nobody there, awake." */
    static void p16_nobodyThereOrAwake() {
        due("nobody", nobody("word x 9;").best(), -2);
        due("a new one", new CradlePairs().best(), -2);
        due("LEFT has WON", leftWon().best(), -2);
        due("RIGHT has WON", rightWon().best(), -2);
    }

    /** "(6: to PASS)" */
    static void p16_toPass() {
        due("no words", two("").best(), 6);
        due("none that they would", two(SIX + "bars=1;").best(), 6);
        CradlePairs x = two("word x 1;");
        due("LEFT says it", x.best(), 0);
        x.say(0);
        due("RIGHT can't", x.best(), 6);
    }

    /** "who WINS: by which it is SOON soonest; .. of alike ones the lowest." */
    static void p16_soonest() {
        due("the second", two("word x 1;word y 9;tilt 11;").best(), 1);
        due("the lowest of two alike", two("word x 1;word y 9;word z 9;tilt 11;").best(), 1);
        due("the first of all", two("word x 9;word y 9;word z 9;tilt 11;").best(), 0);
        due("the sixth", two("word n 1;word o 1;word p 1;word q 1;word r 1;word s 9;tilt 11;").best(), 5);
        due("alike at 20 at most", two("word x 1;word y 9;word z 5;tilt 19;").best(), 0);
    }

    /** "the one whose TURN it is": RIGHT likewise. */
    static void p16_right() {
        CradlePairs wins = two("word x 1;word y 9;word z 9;word w 0;tilt 8;pushes=side*force;");
        wins.say(3);
        due("who WINS", wins.who(), 2);
        due("soonest", wins.best(), 1);
        CradlePairs neither = two("word x 0;word y 0;word z 0;word w 0;tilt 11;pushes=if 0<side then 0 else if last*(2-last)<1 then 0 else 9;");
        neither.say(3);
        due("neither", neither.who(), 0);
        due("not x", neither.best(), 1);
        CradlePairs loses = two("word x 0;word y 0;word z 0;word w 0;tilt 11;pushes=if 0<side then 0 else if last*(2-last)<1 then 3 else 9;");
        loses.say(3);
        due("LEFT WINS", loses.who(), 1);
        due("put off, not x", loses.best(), 1);
    }

    /** "else one behind which neither WINS, if there is one; .. of alike ones the lowest." */
    static void p16_neitherWins() {
        // only behind LEFT's x RIGHT pushes 9
        CradlePairs x = two("word x 0;word y 0;word z 0;tilt 9;pushes=if side<1 then 0 else if last<2 then 9 else 0;");
        due("who", x.who(), 0);
        due("not x, the lowest else", x.best(), 1);
        x.say(1);
        due("RIGHT: x, that LEFT can't say then", x.best(), 0);
        due("all alike", two(NAUGHTS).best(), 0);
    }

    /** "else by which it is put off longest; of alike ones the lowest." */
    static void p16_putOffLongest() {
        CradlePairs x = two("word x 0;word y 0;word z 0;tilt 9;pushes=if side<1 then 0 else if last<2 then 9 else 3;");
        due("who", x.who(), 2);
        due("not x, the lowest else", x.best(), 1);
        due("all alike", two("word x 0;word y 0;pushes=side*9;tilt 9;").best(), 0);
        CradlePairs y = two(LEFT_ROUND);
        y.say(0);
        due("the only one", y.best(), 1);
    }

    // ---- promise 17

    /** "TOGETHER (nobody there, awake: 0)." */
    static void p17_nobodyThereOrAwake() {
        due("nobody", nobody("word x 0;word y 0;").together(), 0);
        due("a new one", new CradlePairs().together(), 0);
        due("LEFT has WON", leftWon().together(), 0);
        due("RIGHT has WON", rightWon().together(), 0);
    }

    /** "the most TURNS (0 .. 200)": those who can go on for ever, or beyond 200. */
    static void p17_twoHundredAtMost() {
        due("passing for ever", two("").together(), 200);
        due("saying for ever", two(NAUGHTS).together(), 200);
        due("in a ring", two(RING).together(), 200);
        CradlePairs x = two(LEFT_ROUND + "tilt 4;");
        for (int taken = 0; taken <= 16; taken++) {
            due("of " + (210 - taken), x.together(), Math.min(200, 210 - taken));
            x.minutes(1);
        }
        due("of 252", two(LEFT_ROUND + "tilt 1;").together(), 200);
        due("of 196", two(LEFT_ROUND + "tilt 5;").together(), 196);
    }

    /** "with the child ASLEEP behind all": none, if each turn wakes it. */
    static void p17_noneAtLeast() {
        due("at once", two("word x 1;word y 9;tilt 19;").together(), 0);
        due("at once by the only one", two(LEFT_ROUND + "tilt 19;").together(), 0);
        CradlePairs x = two(LEFT_ROUND + "tilt 18;");
        for (int taken = 0; taken <= 14; taken++) {
            due("of " + (14 - taken), x.together(), 14 - taken);
            x.minutes(1);
        }
        due("awake then", x.count(2), 20);
    }

    /** "both wishing so": the longer of two ways. */
    static void p17_bothWishingSo() {
        due("y, x, y", two(SHORT).together(), 3);
        CradlePairs x = two(SHORT);
        x.say(0);
        due("y", x.together(), 1);
        x.say(1);
        due("x alone wakes it", x.together(), 0);
    }

    // ---- promise 18

    /** "EVEN in n (0 .. 40)", "NONE: no such n." */
    static void p18_noSuchNumber() {
        CradlePairs[] all = {two(NAUGHTS), new CradlePairs(), leftWon()};
        for (CradlePairs x : all) {
            for (int n : new int[] {MIN, -40, -1, 41, 100, MAX}) {
                due("even " + n, x.even(n), -1);
            }
        }
        due("40", all[0].even(40), 0);
        due("40 of nobody", all[1].even(40), -2);
        due("40, awake", all[2].even(40), -2);
    }

    /** "-2: they can not": awake, nobody there, too many turns. */
    static void p18_theyCanNot() {
        due("awake, none", leftWon().even(0), -2);
        due("awake, none", rightWon().even(0), -2);
        due("awake", rightWon().even(1), -2);
        due("nobody, none", nobody("word x 1;tilt 3;").even(0), 7);
        due("nobody", nobody("word x 1;tilt 3;").even(1), -2);
        due("at once", two("word x 9;tilt 11;").even(1), -2);
        int[] even = {0, 1, 8, 8, -2, -2};
        for (int n = 0; n < even.length; n++) {
            due("in " + n, two(SHORT).even(n), even[n]);
        }
    }

    /** "-2: they can not": 40 turns just so, or one too many. */
    static void p18_fortyJustSo() {
        CradlePairs x = two(LEFT_ROUND + "tilt 16;");
        x.minutes(2);
        due("40 of 40", x.even(40), 9);
        x.minutes(1);
        due("39 of 39", x.even(39), 9);
        due("40 of 39", x.even(40), -2);
    }

    /** "never farther than that from 10, ahead of all and behind each": now. */
    static void p18_aheadOfAll() {
        for (int tilt = 1; tilt <= 19; tilt++) {
            CradlePairs x = two("tilt " + tilt + ";rests=9;");
            due("now " + tilt, x.even(0), Math.abs(tilt - 10));
            due("then nearer", x.even(1), Math.abs(tilt - 10));
            due("and on", x.even(40), Math.abs(tilt - 10));
        }
    }

    /** "never farther than that from 10, ahead of all and behind each": behind the last one, on either side, to 9. */
    static void p18_behindEach() {
        due("up to 19", two("word x 9;").even(1), 9);
        due("down to 1", two("word x 9;pushes=side*9;word y 9;").even(2), 9);
        CradlePairs x = two(LEFT_ROUND);
        due("11", x.even(1), 1);
        due("11 still", x.even(14), 1);
        due("12", x.even(15), 2);
        due("12 still", x.even(28), 2);
        due("13", x.even(29), 3);
    }

    /** "the least number so that n TURNS can be taken": not the nearest turn first. */
    static void p18_theLeast() {
        // LEFT: x to 11, y to 13; behind x RIGHT pushes 9, behind y 3
        CradlePairs x = two("word x 1;word y 3;pushes=if side<1 then force else if last<2 then 9 else 3;");
        due("by x", x.even(1), 1);
        due("by y", x.even(2), 3);
    }

    // ---- promise 19

    /** "WAYS of n (0 .. 7)", "NONE: no such n." */
    static void p19_noSuchNumber() {
        CradlePairs[] all = {two(NAUGHTS), new CradlePairs(), leftWon()};
        for (CradlePairs x : all) {
            for (int n : new int[] {MIN, -7, -1, 8, 9, MAX}) {
                due("ways " + n, x.ways(n), -1);
            }
        }
        due("7", all[0].ways(7), 6 * 5 * 5 * 5 * 5 * 5 * 5);
        due("7 of nobody", all[1].ways(7), 0);
        due("7, awake", all[2].ways(7), 0);
    }

    /** "(awake: 0; else of 0: 1)" */
    static void p19_awakeOrNone() {
        for (int n = 0; n <= 7; n++) {
            due("LEFT has WON", leftWon().ways(n), 0);
            due("RIGHT has WON", rightWon().ways(n), 0);
            due("nobody", nobody(SIX).ways(n), n == 0 ? 1 : 0);
            due("passing", two("").ways(n), 1);
        }
        due("of 0", two("word x 9;tilt 19;").ways(0), 1);
    }

    /** "how many rows of n TURNS there are, with the child ASLEEP behind all" */
    static void p19_asleepBehindAll() {
        int[] six = {1, 6, 30, 146, 729, 3335, 16254, 75008};
        int[] two = {1, 2, 2, 1, 0, 0, 0, 0};
        for (int n = 0; n <= 7; n++) {
            due("of six, " + n, two(SIX).ways(n), six[n]);
            due("of two, " + n, two(SHORT).ways(n), two[n]);
        }
        due("all wake it", two(SIX + "tilt 19;").ways(1), 0);
        due("but one", two(SIX + "tilt 18;").ways(1), 1);
    }

    // ---- promise 20

    /** "NONE: no such n (0 .. 7)." */
    static void p20_noSuchNumber() {
        CradlePairs[] all = {two(SIX), new CradlePairs(), leftWon()};
        for (CradlePairs x : all) {
            for (int n : new int[] {MIN, -7, -1, 8, 9, MAX}) {
                due("waking " + n, x.waking(n), -1);
            }
        }
        due("7", all[0].waking(7), 6998);
        due("7 of nobody", all[1].waking(7), 0);
        due("7, awake", all[2].waking(7), 0);
    }

    /** "WAKING (awake: 0)" */
    static void p20_awake() {
        for (int n = 0; n <= 7; n++) {
            due("LEFT has WON", leftWon().waking(n), 0);
            due("RIGHT has WON", rightWon().waking(n), 0);
            due("nobody", nobody(SIX + "tilt 19;").waking(n), 0);
            due("passing", two("tilt 19;").waking(n), 0);
        }
    }

    /** "how many rows of n or fewer, with it WAKING behind the last one": none of none, and each row ends there. */
    static void p20_nOrFewer() {
        int[] from10 = {0, 0, 0, 4, 5, 315, 736, 6998};
        int[] from15 = {0, 2, 2, 28, 28, 338, 339, 5091};
        int[] two = {0, 0, 0, 1, 2, 2, 2, 2};
        for (int n = 0; n <= 7; n++) {
            due("from 10, " + n, two(SIX).waking(n), from10[n]);
            due("from 15, " + n, two(SIX + "tilt 15;").waking(n), from15[n]);
            due("of two, " + n, two(SHORT).waking(n), two[n]);
            due("all at once, " + n, two(SIX + "tilt 19;").waking(n), n == 0 ? 0 : 6);
        }
    }

    // ---- promise 21

    /** "RING; -2: none.": awake, nobody there, never again. */
    static void p21_none() {
        due("LEFT has WON", leftWon().ring(), -2);
        due("RIGHT has WON", rightWon().ring(), -2);
        due("nobody", nobody(SIX).ring(), -2);
        due("a new one", new CradlePairs().ring(), -2);
        due("it wakes", two(LEFT_ROUND).ring(), -2);
        due("none is the LAST never again", two("word x 2;word y 2;").ring(), -2);
        due("not so tilted again", two("tilt 8;rests=1;").ring(), -2);
    }

    /** "the fewest TURNS (1 or more), by which the STANDING comes again": 0 are none; 2 at least. */
    static void p21_fewest() {
        due("two passes", two("").ring(), 2);
        due("word and pass", two("word x 0;").ring(), 2);
        CradlePairs x = two("word x 2;word y 2;");
        x.say(0);
        due("y, x", x.ring(), 2);
        CradlePairs y = two("tilt 8;rests=1;");
        y.pass();
        y.pass();
        due("at 10", y.ring(), 2);
        due("fourteen", two(ROUND + "pushes=0;").ring(), 14);
    }

    /** "RING": however long. */
    static void p21_longest() {
        CradlePairs x = two(RING);
        due("126", x.ring(), 126);
        x.minutes(126);
        due("it is SET", x.set(), false);
        x.minutes(60);
        due("126 from anywhere", x.ring(), 126);
    }

    // ---- promise 22

    /** "REACH: how many STANDINGS, as now or come to by any TURNS": as now alone. */
    static void p22_asNowAlone() {
        due("LEFT has WON", leftWon().reach(), 1);
        due("RIGHT has WON", rightWon().reach(), 1);
        due("nobody", nobody(SIX).reach(), 1);
        due("a new one", new CradlePairs().reach(), 1);
    }

    /** "STANDINGS, as now or come to by any TURNS": each once, the waking ones too. */
    static void p22_eachOnce() {
        due("two passes", two("").reach(), 2);
        due("waking", two("word x 9;tilt 19;").reach(), 2);
        due("waking by six", two(SIX + "tilt 19;").reach(), 7);
        due("six by turns", two(NAUGHTS).reach(), 13);
        due("of two", two(SHORT).reach(), 8);
        for (int tilt = 1; tilt <= 19; tilt++) {
            due("from " + tilt, two(LEFT_ROUND + "tilt " + tilt + ";").reach(), 14 * (19 - tilt) + 2);
        }
        due("a ring", two(RING).reach(), 126);
    }

    // ---- promise 23

    /** "SLOPES (bits).": the first bit is 0, the last one 20. */
    static void p23_bits() {
        due("20", leftWon().slopes(), 1 << 20);
        due("0", rightWon().slopes(), 1);
        for (int tilt = 1; tilt <= 19; tilt++) {
            due("nobody, " + tilt, nobody("tilt " + tilt + ";").slopes(), 1 << tilt);
            due("all from " + tilt, two(LEFT_ROUND + "tilt " + tilt + ";").slopes(), (1 << 21) - (1 << tilt));
            due("all down from " + tilt, two(RIGHT_ROUND + "tilt " + tilt + ";").slopes(), (1 << tilt + 1) - 1);
        }
        due("both ends", two(SHORT).slopes(), 1 << 20 | 1 << 19 | 1 << 18 | 1 << 11 | 1 << 10 | 1 << 3 | 1 << 2 | 1);
    }

    /** "SLOPES that these have": as it is now, not as it was. */
    static void p23_fromNowOn() {
        CradlePairs x = two(SHORT);
        x.say(0);
        due("behind x", x.slopes(), 1 << 20 | 1 << 19 | 1 << 18);
        x.undo();
        x.say(1);
        due("behind y", x.slopes(), 1 << 11 | 1 << 3 | 1 << 2 | 1);
    }

    // ---- promise 24

    /** "HANGS (bits).": none. */
    static void p24_none() {
        due("LEFT has WON", leftWon().hangs(), 0);
        due("RIGHT has WON", rightWon().hangs(), 0);
        due("nobody", nobody(SIX).hangs(), 0);
        due("a new one", new CradlePairs().hangs(), 0);
        due("no words", two("").hangs(), 0);
        due("none that they would say", two(SIX + "bars=1;").hangs(), 0);
        due("either will do", two("word x 9;word y 9;tilt 11;").hangs(), 0);
    }

    /** "HANGS (bits).": the first bit is the first WORD's, the last one the sixth's. */
    static void p24_bits() {
        String[] words = {"n", "o", "p", "q", "r", "s"};
        for (int i = 0; i < 6; i++) {
            due("by " + words[i], two(NAUGHTS.replace(words[i] + " 0", words[i] + " 9") + "tilt 11;").hangs(), 1 << i);
        }
        due("by both", two("word x 2;word y 2;").hangs(), 3);
    }

    /** "without which (never SAID by anybody) WHO would be another": from each to another. */
    static void p24_anotherOne() {
        due("LEFT, else neither", two(LEFT_ROUND).hangs(), 1);
        // without o, q or s RIGHT passes, and it is never RIGHT who says n
        due("RIGHT, else neither", two(RIGHT_ROUND).hangs(), 1 | 2 | 8 | 32);
        // by n LEFT wins at once; else RIGHT goes on by o and p
        due("LEFT, else RIGHT", two("word n 9;word o 0;word p 0;tilt 12;pushes=if force<9 then side*3 else 9;").hangs(), 1);
        due("neither, else LEFT", two("word x 2;word y 2;").hangs(), 3);
    }

    /** "never SAID by anybody": nor by the one who does not win by it; who can say nothing else PASSES. */
    static void p24_neverSaidByAnybody() {
        // RIGHT keeps up by y alone
        CradlePairs x = two("word x 1;word y 1;bars=if side<which then 1 else if which<side then 1 else 0;");
        due("who", x.who(), 0);
        due("x: then RIGHT wins; y: then LEFT wins", x.hangs(), 3);
        due("nothing is forgotten", x.who(), 0);
        due("it can still be said", x.count(13), 1);
    }

    // ---- promise 25

    /** "NONE: no such WORD." */
    static void p25_noSuchWord() {
        CradlePairs[] all = {two(SIX), leftWon(), nobody(SIX)};
        for (CradlePairs x : all) {
            for (int word : new int[] {MIN, -2, -1, 6, 7, MAX}) {
                due("scale " + word, x.scale(word), -1);
            }
        }
        due("a second of one", two("word x 1;").scale(1), -1);
        due("of none", two("").scale(0), -1);
        due("a new one", new CradlePairs().scale(0), -1);
        due("6, if they pass", two("word x 1;bars=1;").scale(6), -1);
    }

    /** "-2: it CAN not be SAID": nobody there, awake, the LAST, they would not. */
    static void p25_itCanNot() {
        for (int word = 0; word < 6; word++) {
            due("nobody", nobody(SIX).scale(word), -2);
            due("LEFT has WON", leftWon().scale(word), -2);
            due("RIGHT has WON", rightWon().scale(word), -2);
            due("they would not", two(SIX + "bars=1;").scale(word), -2);
        }
        CradlePairs x = two("word x 2;word y 2;");
        x.say(1);
        due("the LAST", x.scale(1), -2);
        due("not the LAST", x.scale(0), 0);
    }

    /** "WHO behind it": of a waking word who has WON; nothing happens. */
    static void p25_behindIt() {
        due("LEFT by it", two("word x 1;word y 1;tilt 19;").scale(1), 1);
        CradlePairs x = two("word x 9;word y 9;pushes=side*9;tilt 9;");
        x.say(0);
        due("RIGHT by it", x.scale(1), 2);
        due("x: LEFT", two(SHORT).scale(0), 1);
        due("y: RIGHT", two(SHORT).scale(1), 2);
        due("the sixth", two(SIX + "tilt 14;").scale(5), 1);
        Seen.nothingHappens(Seen::busy, y -> {
            for (int word = -1; word <= 6; word++) {
                y.scale(word);
            }
        });
    }

    /** "What would be (nothing happens)": whatever else was asked ahead, of whichever two. */
    static void p14_inAnyOrder() {
        CradlePairs x = Due.told("speaker a 1;speaker b 9;speaker c 1;word n 0;word o 0;pair a b;tilt 9;"
            + "pushes=if tongue<other then 0 else if other<tongue then 3 else 1;");
        for (int round = 0; round < 3; round++) {
            due("RIGHT WINS", x.who(), 2);
            due("soon", x.soon(), 6);
            due("together", x.together(), 5);
            due("soon still", x.soon(), 6);
            due("calm", x.calm(1, 0), 1);
            due("reach", x.reach() > 1, true);
            due("soon behind that", x.soon(), 6);
            x.hire(1, 0);
            due("reach", x.reach() > 1, true);
            due("LEFT WINS", x.who(), 1);
            due("soon of LEFT", x.soon(), 7);
            x.hire(2, 0);
            due("slopes", x.slopes(), 1 << 9 | 1 << 10);
            due("neither", x.who(), 0);
            due("no ring", x.ring(), -2);
            due("neither still", x.who(), 0);
            x.hire(0, 1);
            due("no ring of these", x.ring(), -2);
        }
    }

    /** "What would be (nothing happens)." */
    static void p14_nothingHappens() {
        Seen.nothingHappens(Seen::busy, x -> {
            x.who();
            x.soon();
            x.best();
            x.together();
            x.even(40);
            x.even(41);
            x.ways(7);
            x.ways(8);
            x.waking(7);
            x.waking(8);
            x.ring();
            x.reach();
            x.slopes();
            x.hangs();
        });
    }

    public static void main(String[] args) throws ReflectiveOperationException {
        Each.run(ForecastBoundaryTest.class, 14, 25);
    }
}
