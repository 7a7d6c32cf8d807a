/**
 * The boundary cases that the document names for what happens: promises 6 to 13, with what Terms tells under II of the
 * SLOPE, of LAWS, of LOT and of MINUTES. The sentence that a test is of stands above it.
 */
public final class TurnBoundaryTest {
    private static final int MIN = Integer.MIN_VALUE;
    private static final int MAX = Integer.MAX_VALUE;
    private static final int[] OFF = {MIN, MIN + 1, -7, -3, -2, -1, 7, 8, 100, 1000000, MAX - 1, MAX};
    private static final String TWO = "speaker a 1;speaker b 1;pair a b;";
    private static final String SIX = "word n 1;word o 2;word p 3;word q 4;word r 5;word s 6;";
    /** Two to the power of 30, as a LAW can tell it. */
    private static final String TO30 = "8*8*8*8*8*8*8*8*8*8";
    private static final String LEAST = "(" + TO30 + "*2)";
    private static final String MOST = "((" + TO30 + "-1)*2+1)";

    private static void due(String what, int got, int want) {
        Due.due(what, got, want);
    }

    private static void due(String what, boolean got, boolean want) {
        Due.due(what, got, want);
    }

    private static CradlePairs two(String more) {
        return Due.told(TWO + more);
    }

    /** PUSHES of LEFT (3) against RIGHT (7), of the second of three words (4, 2, 5), tilted 6. */
    private static int pushes(String law) {
        return Due.told("speaker a 3;speaker b 7;word x 4;word y 2;word z 5;pair a b;tilt 6;pushes=" + law + ";").word(1, 2);
    }

    private static void equal(String a, String b) {
        due(a + " is " + b, pushes("if " + a + "<" + b + " then 1 else if " + b + "<" + a + " then 2 else 3"), 3);
    }

    private static void less(String a, String b) {
        due(a + " below " + b, pushes("if " + a + "<" + b + " then 1 else 2"), 1);
        due(b + " not below " + a, pushes("if " + b + "<" + a + " then 1 else 2"), 2);
    }

    private static CradlePairs wokenByLeft() {
        CradlePairs x = two(SIX + "pushes=9;tilt 19;");
        x.say(3);
        return x;
    }

    private static CradlePairs wokenByRight() {
        CradlePairs x = two(SIX + "pushes=side*9;tilt 1;");
        x.say(3);
        x.say(0);
        return x;
    }

    // ---- promise 6

    /** "Of a SPEAKER: .. NONE for others." */
    static void p06_noSuchSpeaker() {
        CradlePairs x = Due.told("speaker a 1;speaker b 2;speaker c 3;speaker d 4;speaker e 5;pair a e;");
        CradlePairs one = Due.told("speaker a 1;");
        for (int what = 0; what <= 2; what++) {
            for (int speaker : OFF) {
                due("speaker " + speaker, x.speaker(speaker, what), -1);
            }
            due("the fifth is", x.speaker(4, what) >= 0, true);
            due("a sixth", x.speaker(5, what), -1);
            due("a second of one", one.speaker(1, what), -1);
            due("of none", new CradlePairs().speaker(0, what), -1);
        }
    }

    /** "what 0 .., 1 .., 2 .. NONE for others." */
    static void p06_noSuchWhat() {
        CradlePairs x = Due.told("speaker a 1;speaker b 2;pair a b;");
        for (int what : OFF) {
            due("what " + what, x.speaker(0, what), -1);
        }
        due("what 3", x.speaker(0, 3), -1);
    }

    /** "what 0 TONGUE": 0 and 9. */
    static void p06_tongue() {
        CradlePairs x = Due.told("speaker a 0;speaker b 9;");
        due("0", x.speaker(0, 0), 0);
        due("9", x.speaker(1, 0), 9);
    }

    /** "1 which side (-2: none, 0 LEFT, 1 RIGHT)" */
    static void p06_side() {
        CradlePairs x = Due.told("speaker a 1;speaker b 2;speaker c 3;");
        due("nobody there", x.speaker(0, 1), -2);
        x.hire(2, 0);
        due("RIGHT", x.speaker(0, 1), 1);
        due("none", x.speaker(1, 1), -2);
        due("LEFT", x.speaker(2, 1), 0);
        x.undo();
        due("none again", x.speaker(2, 1), -2);
    }

    /** "2 how often HIRED so far (a text's PAIR is not HIRED)" */
    static void p06_hired() {
        CradlePairs x = Due.told("speaker a 1;speaker b 2;speaker c 3;pair a b;");
        due("a text's LEFT", x.speaker(0, 2), 0);
        due("a text's RIGHT", x.speaker(1, 2), 0);
        x.hire(0, 1);
        due("refused", x.speaker(0, 2), 0);
        x.hire(1, 0);
        x.hire(0, 2);
        x.hire(0, 2);
        due("twice", x.speaker(0, 2), 2);
        due("once, gone", x.speaker(1, 2), 1);
        due("once", x.speaker(2, 2), 1);
        x.undo();
        due("one undone", x.speaker(0, 2), 1);
        due("none left", x.speaker(2, 2), 0);
    }

    // ---- promise 7

    /** "Of a WORD: .. NONE for others." */
    static void p07_noSuchWord() {
        CradlePairs x = two(SIX);
        CradlePairs one = two("word n 1;");
        for (int what = 0; what <= 3; what++) {
            for (int word : OFF) {
                due("word " + word, x.word(word, what), -1);
            }
            due("the sixth is", x.word(5, what) >= 0, true);
            due("a seventh", x.word(6, what), -1);
            due("a second of one", one.word(1, what), -1);
            due("of none", new CradlePairs().word(0, what), -1);
        }
    }

    /** "what 0 .., 1 .., 2 .., 3 .. NONE for others." */
    static void p07_noSuchWhat() {
        CradlePairs x = two(SIX);
        for (int what : OFF) {
            due("what " + what, x.word(0, what), -1);
        }
        due("what 4", x.word(0, 4), -1);
    }

    /** "2 PUSHES, 3: .. of whose TURN it is (nobody there: 0, 0)" */
    static void p07_nobodyThere() {
        CradlePairs x = Due.told("speaker a 1;speaker b 1;word n 9;pushes=9;bars=9;");
        due("force", x.word(0, 0), 9);
        due("can not", x.word(0, 1), 0);
        due("pushes", x.word(0, 2), 0);
        due("bars", x.word(0, 3), 0);
        x.hire(0, 1);
        due("pushes of LEFT", x.word(0, 2), 9);
        due("bars of LEFT", x.word(0, 3), 1);
        x.undo();
        due("pushes of nobody again", x.word(0, 2), 0);
        due("bars of nobody again", x.word(0, 3), 0);
    }

    /** "of whose TURN it is": LEFT's and RIGHT's laws. */
    static void p07_ofWhoseTurn() {
        CradlePairs x = Due.told("speaker a 2;speaker b 6;word n 9;word o 1;pair a b;pushes=tongue+side;bars=side*other-1;");
        due("LEFT pushes", x.word(1, 2), 2);
        due("LEFT would", x.word(1, 3), 0);
        x.say(0);
        due("RIGHT pushes", x.word(1, 2), 7);
        due("RIGHT would not", x.word(1, 3), 1);
        due("of the LAST, too", x.word(0, 2), 7);
    }

    /** "1: 1 it CAN be SAID now, else 0" */
    static void p07_canBeSaid() {
        CradlePairs x = two("word n 1;word o 1;word p 1;bars=which-1;");
        due("it can", x.word(0, 1), 1);
        due("bars tells 0", x.word(1, 1), 1);
        due("they would not", x.word(2, 1), 0);
        x.say(0);
        due("the LAST", x.word(0, 1), 0);
        due("another one", x.word(1, 1), 1);
        CradlePairs left = wokenByLeft();
        CradlePairs right = wokenByRight();
        for (int word = 0; word < 6; word++) {
            due("awake", left.word(word, 1) + right.word(word, 1), 0);
        }
    }

    /** "PUSHES, held to 0 .. 9" */
    static void p07_pushesHeld() {
        String[] laws = {"0", "9", "10", "9999", "0-1", "0-9999", MOST, LEAST, "8", "1"};
        int[] held = {0, 9, 9, 9, 0, 0, 9, 0, 8, 1};
        for (int i = 0; i < laws.length; i++) {
            due(laws[i], pushes(laws[i]), held[i]);
        }
    }

    /** "BARS: more than 0: they would not say it" */
    static void p07_barsMoreThanNone() {
        String[] laws = {"0", "1", "0-1", "9999", MOST, LEAST, "1-1", "0-9999"};
        int[] barred = {0, 1, 0, 1, 1, 0, 0, 0};
        for (int i = 0; i < laws.length; i++) {
            CradlePairs x = two("word n 1;bars=" + laws[i] + ";");
            due("bars " + laws[i], x.word(0, 3), barred[i]);
            due("can " + laws[i], x.word(0, 1), 1 - barred[i]);
            due("said " + laws[i], x.say(0), barred[i] == 1 ? -1 : 11);
        }
    }

    /** "the E of the first if that holds (one less than the other), else the last one" */
    static void p07_oneLessThanTheOther() {
        due("less", pushes("if 1<2 then 3 else 4"), 3);
        due("alike", pushes("if 2<2 then 3 else 4"), 4);
        due("more", pushes("if 3<2 then 3 else 4"), 4);
        due("below 0", pushes("if 0-1<0 then 3 else 4"), 3);
        due("the first of two", pushes("if 1<2 then 3 else if 1<2 then 4 else 5"), 3);
        due("the second", pushes("if 2<1 then 3 else if 1<2 then 4 else 5"), 4);
        due("none", pushes("if 2<1 then 3 else if 2<1 then 4 else 5"), 5);
        String three = "if 2<1 then 1 else if 2<1 then 2 else if 2<1 then 3 else ";
        due("the fourth", pushes(three + "if 1<2 then 4 else 5"), 4);
        due("the last", pushes(three + "if 2<1 then 4 else 5"), 5);
        less(LEAST, MOST);
        less("0", MOST);
        less(LEAST, "0");
        less(LEAST, "(" + LEAST + "+1)");
        less("(" + MOST + "-1)", MOST);
    }

    /** "ints of 32 bits that wrap" */
    static void p07_wrap() {
        less("0", "9999*9999*21");
        less("9999*9999*22", "0");
        less("9999*9999*21+9999*9999", "0");
        less("0", "0-9999*9999*21-9999*9999");
        equal(MOST + "+1", LEAST);
        equal(LEAST + "-1", MOST);
        equal("0-" + LEAST, LEAST);
        equal(LEAST + "*(0-1)", LEAST);
        equal(MOST + "*2", "0-2");
        equal(LEAST + "*2", "0");
        equal(TO30 + "*4", "0");
        equal("9999*9999*9999", "0-(1027*1000*1000+349*1000+969)");
        due("of three", pushes("0-9999*9999*9999/9999/9999/2"), 5);
    }

    /** "/ rounded towards 0" */
    static void p07_roundedTowardsNone() {
        equal("7/2", "3");
        equal("(0-7)/2", "0-3");
        equal("7/(0-2)", "0-3");
        equal("(0-7)/(0-2)", "3");
        equal("(0-1)/2", "0");
        equal("1/2", "0");
        equal("0/5", "0");
        equal("9999/9999", "1");
        equal("9998/9999", "0");
        equal(LEAST + "/(0-1)", LEAST);
        equal(LEAST + "/1", LEAST);
        equal(LEAST + "/2", "0-" + TO30);
        equal(MOST + "/(0-1)", LEAST + "+1");
        equal("7-7/2*2", "1");
    }

    /** "a LAW in which something that is looked at is divided by 0 is 0": PUSHES. */
    static void p07_dividedByNone() {
        due("1/0", pushes("5+1/0"), 0);
        due("0/0", pushes("5+0/0"), 0);
        due("ahead of the rest", pushes("1/0+5"), 0);
        due("times 0", pushes("5+0*(1/0)"), 0);
        due("a difference of 0", pushes("5+9/(slope-6)"), 0);
        due("0 by a number", pushes("5+0/3"), 5);
        due("deep", pushes("5+((((((1/0))))))"), 0);
        due("in what holds", pushes("if 1<2 then 1/0 else 3"), 0);
        due("in what comes last", pushes("if 2<1 then 3 else 4/0"), 0);
        due("left in an if", pushes("if 1/0<1 then 3 else 4"), 0);
        due("right in an if", pushes("if 1<1/0 then 3 else 4"), 0);
        due("in a second if", pushes("if 2<1 then 3 else if 1/0<1 then 4 else 5"), 0);
        due("by 0 once wrapped", pushes("5+1/(" + TO30 + "*4)"), 0);
    }

    /** "something that is looked at": what is not looked at may be divided by 0. */
    static void p07_notLookedAt() {
        due("behind what holds", pushes("if 1<2 then 3 else 1/0"), 3);
        due("in what does not hold", pushes("if 2<1 then 1/0 else 4"), 4);
        due("in an if behind", pushes("if 1<2 then 3 else if 1/0<1 then 4 else 5"), 3);
        due("in a then behind", pushes("if 1<2 then 3 else if 1<2 then 1/0 else 5"), 3);
        due("between", pushes("if 2<1 then 1/0 else if 1<2 then 4 else 1/0"), 4);
    }

    /** "a LAW .. divided by 0 is 0": BARS. */
    static void p07_barsDividedByNone() {
        CradlePairs x = two("word n 1;bars=5+1/side;");
        due("0 of LEFT", x.word(0, 3), 0);
        due("said", x.say(0), 11);
        due("6 of RIGHT", x.word(0, 3), 1);
    }

    /** "force; tongue; slope": from the least to the most that there can be, awake, too. */
    static void p07_forceTongueSlope() {
        for (int n = 0; n <= 9; n++) {
            CradlePairs x = Due.told("speaker a " + n + ";speaker b " + (9 - n) + ";word n " + n + ";pair a b;pushes=force;bars=tongue-8;");
            due("force", x.word(0, 2), n);
            due("tongue of 9 alone", x.word(0, 3), n == 9 ? 1 : 0);
            CradlePairs y = Due.told("speaker a " + n + ";speaker b " + (9 - n) + ";word n 1;pair a b;bars=other-8;");
            due("other of 9 alone", y.word(0, 3), n == 0 ? 1 : 0);
        }
        for (int tilt = 1; tilt <= 19; tilt++) {
            CradlePairs x = two("word n 1;tilt " + tilt + ";pushes=if slope<" + tilt + " then 1 else if " + tilt + "<slope then 2 else 3;");
            due("slope " + tilt, x.word(0, 2), 3);
        }
        CradlePairs left = two("word n 9;word o 9;tilt 19;bars=slope-19;");
        left.say(0);
        due("slope 20", left.word(1, 3), 1);
        CradlePairs right = two("word n 9;word o 9;tilt 1;pushes=if slope<1 then 4 else side*9;");
        right.say(0);
        right.say(1);
        due("slope 0", right.word(0, 2), 4);
    }

    /** "last: 0 none, else one more than the LAST WORD's number" */
    static void p07_last() {
        CradlePairs x = two(SIX + "pushes=last;");
        due("none", x.word(0, 2), 0);
        x.say(0);
        due("the first", x.word(1, 2), 1);
        x.say(5);
        due("the sixth", x.word(1, 2), 6);
    }

    /** "side: 0 LEFT, 1 RIGHT; which: the WORD's number; other: the other one's TONGUE" */
    static void p07_sideWhichOther() {
        CradlePairs x = Due.told("speaker a 0;speaker b 9;" + SIX + "pair a b;pushes=which+side*2;bars=other-8;");
        due("LEFT, the first", x.word(0, 2), 0);
        due("LEFT, the sixth", x.word(5, 2), 5);
        due("other of LEFT", x.word(0, 3), 1);
        x.minutes(1);
        due("RIGHT, the first", x.word(0, 2), 2);
        due("RIGHT, the sixth", x.word(5, 2), 7);
        due("other of RIGHT", x.word(0, 3), 0);
    }

    /** "words: how many there are" */
    static void p07_words() {
        due("one", two("word n 0;pushes=words;").word(0, 2), 1);
        due("six", two(SIX + "pushes=words;").word(5, 2), 6);
        due("none", Due.told("speaker a 1;speaker b 1;wages=words;").hire(0, 1), 0);
        due("none at rest", two("rests=words;tilt 15;").pass(), 15);
    }

    /** "same: 1 the LAST has as much FORCE as the WORD, else 0 (none: 0)" */
    static void p07_same() {
        CradlePairs x = two("word n 0;word o 0;word p 9;word q 9;pushes=same+5;");
        for (int word = 0; word < 4; word++) {
            due("none is the LAST", x.word(word, 2), 5);
        }
        x.say(0);
        int[] of0 = {6, 6, 5, 5};
        for (int word = 0; word < 4; word++) {
            due("behind the first", x.word(word, 2), of0[word]);
        }
        x.say(3);
        int[] of9 = {5, 5, 6, 6};
        for (int word = 0; word < 4; word++) {
            due("behind the fourth", x.word(word, 2), of9[word]);
        }
    }

    /** "UNIT: .. '(' E ')'", "a 7th ( within one another", "a 5th if": the deepest and the longest LAW is told as it stands. */
    static void p07_deepest() {
        String deep = "1+1*(1+1*(1+1*(1+1*(1+1*(1+1*(1+1*2))))))";
        due("9", pushes(deep), 9);
        due("in an if", pushes("if 1+7*1<" + deep + " then 3 else 4"), 3);
        due("left in an if", pushes("if " + deep + "<1+8*1 then 3 else 4"), 4);
        due("behind four ifs", pushes("if 2<1 then 1 else ".repeat(4) + deep), 9);
        due("in the fourth", pushes("if 2<1 then 1 else ".repeat(3)
            + "if " + deep + "-1<" + deep + " then " + deep + " else 1"), 9);
    }

    // ---- promise 8

    /** "NONE, and nothing happens: .. no such WORD." */
    static void p08_noSuchWord() {
        for (int word : OFF) {
            due("say " + word, two(SIX).say(word), -1);
        }
        due("a seventh", two(SIX).say(6), -1);
        due("a second of one", two("word n 1;").say(1), -1);
        due("of none", two("").say(0), -1);
        Seen.nothingHappens(Seen::busy, x -> {
            for (int word : OFF) {
                x.say(word);
            }
            x.say(3);
            x.say(6);
        });
    }

    /** "NONE .. no such WORD": 6 is to PASS for BEST, but no WORD, even if one CAN SAY none. */
    static void p08_passingIsNoWord() {
        CradlePairs x = two("word n 1;bars=1;");
        due("say 6", x.say(6), -1);
        due("nothing happens", x.count(3) + x.count(9), 0);
    }

    /** "NONE, and nothing happens: it CAN not be": "if there is a PAIR" */
    static void p08_nobodyThere() {
        CradlePairs x = Due.told("speaker a 1;speaker b 1;word n 1;");
        due("say", x.say(0), -1);
        due("things", x.count(9), 0);
        due("slope", x.count(2), 10);
    }

    /** "it CAN not be": "the child is ASLEEP" */
    static void p08_awake() {
        for (int word = 0; word < 6; word++) {
            due("LEFT has WON", wokenByLeft().say(word), -1);
            due("RIGHT has WON", wokenByRight().say(word), -1);
        }
        Seen.nothingHappens(TurnBoundaryTest::wokenByLeft, x -> x.say(0));
        Seen.nothingHappens(TurnBoundaryTest::wokenByRight, x -> x.say(1));
    }

    /** "it CAN not be": "the WORD is not the LAST" */
    static void p08_theLast() {
        CradlePairs x = two("word n 1;word o 1;");
        due("LEFT", x.say(0), 11);
        due("RIGHT not the same", x.say(0), -1);
        due("RIGHT another", x.say(1), 10);
        due("LEFT not that", x.say(1), -1);
        due("LEFT the first again", x.say(0), 11);
        Seen.nothingHappens(Seen::busy, y -> y.say(y.count(4)));
    }

    /** "it CAN not be": "and they would" */
    static void p08_theyWouldNot() {
        CradlePairs x = two("word n 1;word o 1;bars=side+which-1;");
        due("LEFT would", x.say(1), 11);
        due("RIGHT would", x.say(0), 10);
        CradlePairs y = two("word n 1;word o 1;word p 1;bars=side+which-1;");
        due("LEFT would not", y.say(2), -1);
        y.say(0);
        due("RIGHT would not", y.say(1), -1);
        due("things", y.count(9), 1);
    }

    /** "SAID: the SLOPE is PUSHES more if LEFT says it, less if RIGHT does (20, 0 at most)": LEFT. */
    static void p08_twentyAtMost() {
        for (int tilt = 1; tilt <= 19; tilt++) {
            CradlePairs x = two("word n 9;word o 9;tilt " + tilt + ";");
            due("from " + tilt, x.say(0), Math.min(20, tilt + 9));
            due("slope", x.count(2), Math.min(20, tilt + 9));
            due("RIGHT then", x.say(1), tilt + 9 >= 20 ? -1 : tilt);
        }
    }

    /** "(20, 0 at most)": RIGHT. */
    static void p08_noneAtLeast() {
        for (int tilt = 1; tilt <= 19; tilt++) {
            CradlePairs x = two("word n 9;word o 9;pushes=side*9;tilt " + tilt + ";");
            x.say(0);
            due("from " + tilt, x.say(1), Math.max(0, tilt - 9));
            due("slope", x.count(2), Math.max(0, tilt - 9));
            due("LEFT then", x.say(0), tilt <= 9 ? -1 : tilt - 9);
        }
    }

    /** "The child WAKES if the SLOPE is 20 .. or 0 ..; it is ASLEEP else.": 19 and 1. */
    static void p08_asleepAtNineteenAndOne() {
        CradlePairs x = two("word n 9;word o 9;");
        due("19", x.say(0), 19);
        due("asleep", x.say(1), 10);
        CradlePairs y = two("word n 9;word o 9;pushes=side*9;");
        y.say(0);
        due("1", y.say(1), 1);
        due("asleep", y.say(0), 1);
        CradlePairs z = two("word n 1;word o 1;tilt 19;");
        due("20 just so", z.say(0), 20);
        due("awake", z.say(1), -1);
        CradlePairs w = two("word n 1;word o 1;pushes=side;tilt 1;");
        w.say(0);
        due("0 just so", w.say(1), 0);
        due("awake", w.say(0), -1);
    }

    /** "PUSHES, held to 0 .. 9": when it is SAID. */
    static void p08_pushesHeld() {
        due("10", two("word n 1;tilt 5;pushes=10;").say(0), 14);
        due("9", two("word n 1;tilt 5;pushes=9;").say(0), 14);
        due("most", two("word n 1;tilt 5;pushes=" + MOST + ";").say(0), 14);
        due("below 0", two("word n 1;tilt 5;pushes=0-3;").say(0), 5);
        due("least", two("word n 1;tilt 5;pushes=" + LEAST + ";").say(0), 5);
        due("by 0", two("word n 1;tilt 5;pushes=3+1/0;").say(0), 5);
        CradlePairs x = two("word n 1;word o 1;tilt 15;pushes=side*10;");
        x.say(0);
        due("10 by RIGHT", x.say(1), 6);
        CradlePairs y = two("word n 1;word o 1;tilt 15;pushes=0-side*3;");
        y.say(0);
        due("below 0 by RIGHT", y.say(1), 15);
    }

    /** "and they would": each by their own TONGUE and the other one's. */
    static void p08_theirOwnBars() {
        CradlePairs x = Due.told("speaker a 2;speaker b 5;word n 1;word o 1;pair a b;bars=(tongue-3)*which;");
        due("LEFT would", x.count(13), 3);
        x.say(0);
        due("RIGHT would not", x.count(13), 0);
        CradlePairs y = Due.told("speaker a 2;speaker b 5;word n 1;word o 1;pair a b;bars=(other-3)*which;");
        due("LEFT would not", y.count(13), 1);
        y.say(0);
        due("RIGHT would", y.count(13), 2);
    }

    /** "it is the LAST, and the other one's TURN": with a push of 0, too. */
    static void p08_lastAndTurn() {
        CradlePairs x = two("word n 0;word o 0;");
        due("LEFT", x.say(1), 10);
        due("the LAST", x.count(4), 1);
        due("RIGHT's TURN", x.count(3), 1);
        due("RIGHT", x.say(0), 10);
        due("the LAST", x.count(4), 0);
        due("LEFT's TURN", x.count(3), 0);
        due("by waking", wokenByLeft().count(3), 1);
        due("the LAST by waking", wokenByLeft().count(4), 3);
    }

    // ---- promise 9

    /** "NONE, and nothing happens: nobody there" */
    static void p09_nobodyThere() {
        CradlePairs x = Due.told("speaker a 1;speaker b 1;tilt 15;rests=3;");
        due("pass", x.pass(), -1);
        due("slope", x.count(2), 15);
        due("turn", x.count(3), 0);
        due("things", x.count(9), 0);
    }

    /** "NONE, and nothing happens: .. awake" */
    static void p09_awake() {
        due("LEFT has WON", wokenByLeft().pass(), -1);
        due("RIGHT has WON", wokenByRight().pass(), -1);
        Seen.nothingHappens(TurnBoundaryTest::wokenByLeft, CradlePairs::pass);
        Seen.nothingHappens(TurnBoundaryTest::wokenByRight, CradlePairs::pass);
    }

    /** "NONE, and nothing happens: .. some WORD CAN be SAID" */
    static void p09_someCanBeSaid() {
        CradlePairs x = two("word n 1;bars=0;");
        due("one", x.pass(), -1);
        due("things", x.count(9), 0);
        x.say(0);
        due("none but the LAST", x.pass(), 11);
        CradlePairs y = two(SIX + "bars=5-which;");
        due("the sixth alone", y.pass(), -1);
        due("it can", y.say(5), 16);
        due("none of six", y.pass(), 16);
        Seen.nothingHappens(() -> two(SIX), CradlePairs::pass);
    }

    /** "One who CAN SAY none PASSES": there are no WORDS at all. */
    static void p09_noWords() {
        CradlePairs x = two("");
        due("LEFT", x.pass(), 10);
        due("RIGHT", x.pass(), 10);
        due("things", x.count(9), 2);
    }

    /** "the SLOPE goes RESTS towards 10 (not beyond)" */
    static void p09_towardsTenNotBeyond() {
        for (int tilt = 1; tilt <= 19; tilt++) {
            for (int rests = 0; rests <= 9; rests++) {
                int left = Math.max(0, Math.abs(tilt - 10) - rests);
                int due = tilt < 10 ? 10 - left : 10 + left;
                due(rests + " from " + tilt, two("tilt " + tilt + ";rests=" + rests + ";").pass(), due);
            }
        }
    }

    /** "RESTS .. held to 0 .. 9": below 0 the SLOPE does not go away from 10; beyond 9 it can't go beyond 10. */
    static void p09_restsHeld() {
        due("below, up", two("tilt 15;rests=0-3;").pass(), 15);
        due("below, down", two("tilt 5;rests=0-3;").pass(), 5);
        due("least", two("tilt 15;rests=" + LEAST + ";").pass(), 15);
        due("10", two("tilt 19;rests=10;").pass(), 10);
        due("9999", two("tilt 1;rests=9999;").pass(), 10);
        due("most", two("tilt 1;rests=" + MOST + ";").pass(), 10);
        due("at 10", two("rests=9;").pass(), 10);
        due("at 10, below", two("rests=0-9;").pass(), 10);
    }

    /** "a LAW .. divided by 0 is 0": RESTS. */
    static void p09_restsDividedByNone() {
        CradlePairs x = two("tilt 15;rests=3/side;");
        due("LEFT", x.pass(), 15);
        due("RIGHT", x.pass(), 12);
    }

    /** "RESTS .. (of no WORD: force, which, same 0)": also if the LAST has FORCE 0. */
    static void p09_restsOfNoWord() {
        CradlePairs x = two("word n 0;word o 0;tilt 15;bars=side;rests=1+same+force+which;");
        x.say(0);
        due("the LAST has FORCE 0", x.pass(), 14);
        CradlePairs y = two("word n 9;word o 9;tilt 15;pushes=0;bars=side;rests=1+same+force+which;");
        y.say(1);
        due("the LAST has FORCE 9", y.pass(), 14);
        CradlePairs z = two("word n 9;word o 9;tilt 15;pushes=0;bars=side;rests=last+side;");
        z.say(1);
        due("last and side are told", z.pass(), 12);
    }

    /** "Of a SPEAKER on a side": RESTS by their own TONGUE and the other one's. */
    static void p09_theirOwnRests() {
        CradlePairs x = Due.told("speaker a 1;speaker b 3;pair a b;tilt 19;rests=tongue;");
        due("LEFT", x.pass(), 18);
        due("RIGHT", x.pass(), 15);
        CradlePairs y = Due.told("speaker a 1;speaker b 3;pair a b;tilt 19;rests=other;");
        due("LEFT by RIGHT's", y.pass(), 16);
        due("RIGHT by LEFT's", y.pass(), 15);
    }

    /** "none is the LAST, it is the other one's TURN": what was the LAST can be said again. */
    static void p09_noneIsTheLast() {
        CradlePairs x = two("word n 1;");
        x.say(0);
        due("RIGHT passes", x.pass(), 11);
        due("none", x.count(4), -2);
        due("LEFT's TURN", x.count(3), 0);
        due("the same again", x.say(0), 12);
        CradlePairs y = two("word n 1;bars=1-side;");
        due("LEFT passes", y.pass(), 10);
        due("none", y.count(4), -2);
        due("RIGHT's TURN", y.count(3), 1);
    }

    // ---- promise 10

    /** "NONE, and nothing happens: .. no such SPEAKERS" */
    static void p10_noSuchSpeakers() {
        CradlePairs x = Due.told("speaker a 1;speaker b 1;speaker c 1;speaker d 1;speaker e 1;");
        for (int off : OFF) {
            due("LEFT " + off, x.hire(off, 0), -1);
            due("RIGHT " + off, x.hire(0, off), -1);
            due("both " + off, x.hire(off, off), -1);
        }
        due("a sixth", x.hire(4, 5), -1);
        due("a sixth as LEFT", x.hire(5, 4), -1);
        due("nothing done", x.count(9), 0);
        due("the fourth and the fifth", x.hire(3, 4), 2);
        Seen.nothingHappens(Seen::busy, y -> {
            y.hire(-1, 0);
            y.hire(0, 3);
            y.hire(3, 0);
            y.hire(MIN, MAX);
            y.hire(-1, -1);
        });
        due("one alone", Due.told("speaker a 1;").hire(0, 1), -1);
    }

    /** "NONE, and nothing happens: .. one and the same" */
    static void p10_oneAndTheSame() {
        for (int speaker = 0; speaker < 3; speaker++) {
            due("of busy ones", Seen.busy().hire(speaker, speaker), -1);
        }
        Seen.nothingHappens(Seen::busy, x -> {
            x.hire(0, 0);
            x.hire(1, 1);
            x.hire(2, 2);
        });
    }

    /** "NONE, and nothing happens: they are the PAIR so already" */
    static void p10_soAlready() {
        CradlePairs x = two("word n 1;");
        due("by a text", x.hire(0, 1), -1);
        x.say(0);
        due("not SET", x.hire(0, 1), -1);
        due("slope stays", x.count(2), 11);
        due("the other way", x.hire(1, 0), 2);
        due("so already", x.hire(1, 0), -1);
        due("back again", x.hire(0, 1), 2);
        x.undo();
        x.undo();
        due("as by the text again", x.hire(0, 1), -1);
        Seen.nothingHappens(Seen::busy, y -> y.hire(2, 0));
    }

    /** "a PAIR is HIRED ..: the cradle is SET": tilted, said, awake, with nobody there. */
    static void p10_theCradleIsSet() {
        CradlePairs x = wokenByLeft();
        due("awake", x.hire(1, 0), 2);
        due("slope", x.count(2), 19);
        due("turn", x.count(3), 0);
        due("last", x.count(4), -2);
        due("asleep", x.say(0), 20);
        CradlePairs y = Due.told("speaker a 1;speaker b 1;tilt 4;word n 1;");
        due("nobody ahead", y.hire(1, 0), 2);
        due("slope", y.count(2), 4);
        due("said", y.say(0), 5);
    }

    /** "the cradle is SET, then WAGES of LEFT and of RIGHT are paid": told of the SET cradle. */
    static void p10_wagesOfTheSetCradle() {
        CradlePairs x = Due.told("speaker a 3;speaker b 7;speaker c 2;word n 9;word o 9;pair a b;tilt 6;wages=slope+last*10;");
        x.say(0);
        due("slope 6, none said", x.hire(0, 2), 12);
        CradlePairs y = Due.told("speaker a 3;speaker b 7;wages=tongue*10+other+side;");
        due("each of their own", y.hire(0, 1), 37 + 74);
        due("paid", y.count(12), 111);
    }

    /** "WAGES .. held .. to 0 .. 99": of each of the two. */
    static void p10_wagesHeld() {
        String[] laws = {"99", "100", "9999", "98", "1", "0", "0-1", MOST, LEAST, "if side<1 then 150 else 0-50",
            "if side<1 then 0-50 else 150", "if side<1 then 100 else 1"};
        int[] paid = {198, 198, 198, 196, 2, 0, 0, 198, 0, 99, 99, 100};
        for (int i = 0; i < laws.length; i++) {
            CradlePairs x = Due.told("speaker a 3;speaker b 7;wages=" + laws[i] + ";");
            due("wages " + laws[i], x.hire(0, 1), paid[i]);
            due("paid", x.count(12), paid[i]);
            due("a thing done", x.count(9), 1);
        }
    }

    /** "a LAW .. divided by 0 is 0": WAGES, of one of the two. */
    static void p10_wagesDividedByNone() {
        due("LEFT", Due.told("speaker a 3;speaker b 7;wages=50/side;").hire(0, 1), 50);
        due("RIGHT", Due.told("speaker a 3;speaker b 7;wages=50/(1-side);").hire(0, 1), 50);
        due("both", Due.told("speaker a 3;speaker b 7;wages=50+1/0;").hire(0, 1), 0);
    }

    /** "WAGES (of no WORD: force, which, same 0)": also where WORDS have FORCE 0. */
    static void p10_wagesOfNoWord() {
        due("1 each", Due.told("speaker a 3;speaker b 7;word n 0;word o 5;wages=1+force+which+same+last;").hire(0, 1), 2);
    }

    /** "HIRED: what is paid": all that was paid so far goes on. */
    static void p10_paidSoFar() {
        CradlePairs x = Due.told("speaker a 1;speaker b 2;speaker c 3;pair a b;wages=tongue;");
        due("nothing for a text's PAIR", x.count(12), 0);
        due("a, c", x.hire(0, 2), 4);
        due("c, b", x.hire(2, 1), 5);
        due("so far", x.count(12), 9);
        x.set();
        x.minutes(1);
        due("stays", x.count(12), 9);
        x.undo();
        x.undo();
        due("one undone", x.count(12), 4);
    }

    /** "a PAIR is HIRED, in place of the one ahead": LAWS tell of the two then, also if but one of them is another. */
    static void p10_inPlaceOfTheOneAhead() {
        CradlePairs x = Due.told("speaker a 1;speaker b 2;speaker c 3;speaker d 4;word n 9;word o 9;pair a b;pushes=tongue+other;tilt 9;");
        int[][] pairs = {{2, 1}, {2, 3}, {0, 3}, {3, 0}, {1, 0}, {1, 2}, {0, 2}};
        int[] pushes = {5, 7, 5, 5, 3, 5, 4};
        x.who();
        for (int i = 0; i < pairs.length; i++) {
            x.hire(pairs[i][0], pairs[i][1]);
            due("said " + i, x.say(0), 9 + pushes[i]);
            due("LEFT", x.count(5), pairs[i][0]);
            due("RIGHT", x.count(6), pairs[i][1]);
        }
        for (int i = pairs.length - 2; i >= 0; i--) {
            x.undo();
            x.undo();
            due("undone " + i, x.count(2), 9 + pushes[i]);
            x.undo();
            due("said again " + i, x.say(1), 9 + pushes[i]);
        }
    }

    // ---- promise 11

    /** "false, and nothing happens: it is SET." */
    static void p11_itIsSet() {
        CradlePairs x = two("word n 1;tilt 7;");
        due("by a text", x.set(), false);
        due("nothing done", x.count(9), 0);
        x.say(0);
        due("set", x.set(), true);
        due("again", x.set(), false);
        due("two things done", x.count(9), 2);
        x.hire(1, 0);
        due("by hiring", x.set(), false);
        due("nobody there", Due.told("tilt 3;").set(), false);
        Seen.nothingHappens(() -> two("word n 1;tilt 7;"), CradlePairs::set);
    }

    /** "SET: the SLOPE is TILT, it is LEFT's TURN, none is the LAST.": each of these alone makes it not so. */
    static void p11_eachAloneIsNotSet() {
        CradlePairs turn = two("");
        turn.pass();
        due("the TURN alone", turn.set(), true);
        due("LEFT's TURN", turn.count(3), 0);
        CradlePairs last = two("word n 0;word o 0;");
        last.say(0);
        last.say(1);
        due("the LAST alone", last.set(), true);
        due("none is the LAST", last.count(4), -2);
        CradlePairs slope = two("tilt 12;rests=1;");
        slope.pass();
        slope.pass();
        due("slope 10", slope.count(2), 10);
        due("the SLOPE alone", slope.set(), true);
        due("TILT", slope.count(2), 12);
    }

    /** "false ..: it is SET.": come to by turns. */
    static void p11_comeToByTurns() {
        CradlePairs x = two("");
        x.pass();
        x.pass();
        due("SET by two passes", x.set(), false);
        CradlePairs y = two("word n 3;bars=last;rests=3;tilt 10;");
        y.say(0);
        y.pass();
        due("LEFT's TURN at 10", y.set(), false);
    }

    /** "SET again": when the child is awake, by either. */
    static void p11_awake() {
        CradlePairs x = wokenByLeft();
        due("set", x.set(), true);
        due("slope", x.count(2), 19);
        due("can be said", x.count(13), 63);
        CradlePairs y = wokenByRight();
        due("set", y.set(), true);
        due("slope", y.count(2), 1);
    }

    // ---- promise 12

    /** "n MINUTES (0 .. 200 ..) go by ..; NONE, and nothing happens: no such n." */
    static void p12_noSuchNumber() {
        for (int n : new int[] {MIN, -200, -1, 201, 1000, MAX}) {
            due("minutes " + n, new CradlePairs().minutes(n), -1);
        }
        due("200", new CradlePairs().minutes(200), 200);
        due("1", new CradlePairs().minutes(1), 1);
        Seen.nothingHappens(Seen::busy, x -> {
            x.minutes(-1);
            x.minutes(201);
            x.minutes(MIN);
            x.minutes(MAX);
        });
    }

    /** "(..; 0 is no thing done)" */
    static void p12_noneIsNoThingDone() {
        CradlePairs x = two(SIX);
        due("0", x.minutes(0), 0);
        due("things", x.count(9), 0);
        x.minutes(5);
        due("0 again", x.minutes(0), 5);
        due("one thing", x.count(9), 1);
        Seen.nothingHappens(Seen::busy, y -> y.minutes(0));
    }

    /** "A MINUTE: the child WAKES: nothing; .. It is the next minute." */
    static void p12_awake() {
        CradlePairs x = wokenByLeft();
        due("minutes", x.minutes(200), 200);
        due("slope", x.count(2), 20);
        due("turn", x.count(3), 1);
        due("last", x.count(4), 3);
        due("a thing done", x.count(9), 2);
        CradlePairs y = wokenByRight();
        due("minutes", y.minutes(1), 1);
        due("slope", y.count(2), 0);
    }

    /** "(nobody there: nothing). It is the next minute." */
    static void p12_nobodyThere() {
        CradlePairs x = Due.told("speaker a 1;speaker b 1;" + SIX + "tilt 15;rests=5;");
        due("minutes", x.minutes(200), 200);
        due("slope", x.count(2), 15);
        due("turn", x.count(3), 0);
        due("last", x.count(4), -2);
        due("a thing done", x.count(9), 1);
        due("on", x.minutes(200), 400);
    }

    /** "or PASSES": one who CAN SAY none. */
    static void p12_passes() {
        CradlePairs x = two("tilt 19;rests=2;");
        x.minutes(3);
        due("slope", x.count(2), 13);
        due("turn", x.count(3), 1);
        x.minutes(200);
        due("at 10", x.count(2), 10);
        CradlePairs one = two("word n 1;");
        one.minutes(1);
        due("said", one.count(4), 0);
        one.minutes(1);
        due("passed", one.count(4), -2);
        due("slope", one.count(2), 11);
    }

    /** "the child WAKES: nothing": from the minute on in which it wakes. */
    static void p12_wakesInTheMidst() {
        CradlePairs x = two("word n 1;");
        x.minutes(19);
        due("LEFT pushed ten times", x.count(2), 20);
        due("turn", x.count(3), 1);
        CradlePairs y = two("word n 1;");
        y.minutes(18);
        due("nine times", y.count(2), 19);
        CradlePairs z = two("word n 1;");
        z.minutes(200);
        due("awake", z.count(2), 20);
        due("turn stays", z.count(3), 1);
        due("last stays", z.count(4), 0);
        due("minute", z.count(7), 200);
    }

    /** "that with LOT (how many these are) of the SEED and the minute others of them ahead of it, by their numbers" */
    static void p12_byLot() {
        int[] seeds = {0, 1, 7, 9999};
        int[][] said = {{5, 1, 4, 3, 1, 0, 4, 2, 5, 4, 3, 5}, {3, 4, 1, 2, 1, 4, 3, 5, 3, 2, 1, 2},
            {4, 2, 4, 3, 5, 3, 0, 4, 2, 0, 1, 5}, {5, 3, 0, 4, 5, 1, 4, 5, 3, 0, 5, 1}};
        for (int i = 0; i < seeds.length; i++) {
            CradlePairs x = two(SIX + "pushes=0;seed " + seeds[i] + ";");
            for (int minute = 0; minute < 12; minute++) {
                due("minute", x.minutes(1), minute + 1);
                due("seed " + seeds[i] + " minute " + minute, x.count(4), said[i][minute]);
            }
        }
    }

    /** "says one of the WORDS that they CAN SAY": what is barred and the LAST are not counted. */
    static void p12_amongThoseThatCan() {
        CradlePairs x = two(SIX + "pushes=0;seed 42;bars=if which<2 then 0 else if 2<which then 0 else 1;");
        int[] said = {0, 5, 4, 1, 3, 4, 5, 3, 4, 3, 4, 5};
        for (int minute = 0; minute < 12; minute++) {
            x.minutes(1);
            due("minute " + minute, x.count(4), said[minute]);
        }
    }

    /** "of the SEED and the minute": the minute goes on over all calls, also when many have gone by. */
    static void p12_lateMinutes() {
        CradlePairs x = two(SIX + "pushes=0;seed 5;");
        x.minutes(200);
        due("the 200th", x.count(4), 2);
        x.minutes(200);
        x.minutes(195);
        int[] said = {1, 5, 2, 1, 5};
        for (int i = 0; i < 5; i++) {
            due("minute", x.minutes(1), 596 + i);
            due("said", x.count(4), said[i]);
        }
    }

    /** "which it is": hiring, saying and setting do not change the minute. */
    static void p12_whichItIs() {
        CradlePairs x = two(SIX + "pushes=0;");
        due("first", x.minutes(7), 7);
        x.say(x.count(4) == 0 ? 1 : 0);
        x.set();
        x.hire(1, 0);
        due("goes on", x.count(7), 7);
        due("from there", x.minutes(200), 207);
        x.undo();
        due("undone", x.minutes(0), 7);
    }

    // ---- promise 13

    /** "false: there is none" */
    static void p13_thereIsNone() {
        due("a new one", new CradlePairs().undo(), false);
        CradlePairs x = two("word n 1;");
        due("behind a text", x.undo(), false);
        x.say(0);
        due("one", x.undo(), true);
        due("no more", x.undo(), false);
        due("nor then", x.undo(), false);
        Seen.nothingHappens(() -> two("word n 1;tilt 3;"), CradlePairs::undo);
    }

    /** "The last thing done (say, pass, hire, set, minutes) is undone": each of these. */
    static void p13_eachThing() {
        Seen.nothingHappens(Seen::busy, x -> {
            due("say", x.say(1), 7);
            due("undo", x.undo(), true);
        });
        Seen.nothingHappens(() -> two("tilt 12;rests=1;"), x -> {
            due("pass", x.pass(), 11);
            due("undo", x.undo(), true);
        });
        Seen.nothingHappens(Seen::busy, x -> {
            due("hire", x.hire(0, 1), 26);
            due("undo", x.undo(), true);
        });
        Seen.nothingHappens(Seen::busy, x -> {
            due("set", x.set(), true);
            due("undo", x.undo(), true);
        });
        Seen.nothingHappens(Seen::busy, x -> {
            due("minutes", x.minutes(200), 203);
            due("undo", x.undo(), true);
        });
    }

    /** "The last thing done .. is undone": one after the other, the latest first. */
    static void p13_theLatestFirst() {
        CradlePairs x = Due.told("speaker a 1;speaker b 2;speaker c 3;word n 1;pair a b;tilt 12;rests=1;seed 3;");
        int[][] seen = new int[6][];
        seen[0] = counts(x);
        x.say(0);
        seen[1] = counts(x);
        x.pass();
        seen[2] = counts(x);
        x.minutes(3);
        seen[3] = counts(x);
        x.hire(2, 1);
        seen[4] = counts(x);
        x.say(0);
        seen[5] = counts(x);
        x.set();
        for (int i = 5; i >= 0; i--) {
            due("undo", x.undo(), true);
            int[] now = counts(x);
            for (int what = 0; what < now.length; what++) {
                due("count " + what + " ahead of thing " + i, now[what], seen[i][what]);
            }
        }
        due("none left", x.undo(), false);
    }

    private static int[] counts(CradlePairs x) {
        int[] counts = new int[14];
        for (int what = 0; what < counts.length; what++) {
            counts[what] = x.count(what);
        }
        return counts;
    }

    /** "The last thing done .. is undone": of each of five SPEAKERS. */
    static void p13_eachSpeaker() {
        CradlePairs x = Due.told("speaker a 1;speaker b 2;speaker c 3;speaker d 4;speaker e 5;");
        for (int i = 0; i < 5; i++) {
            x.hire(i, (i + 1) % 5);
        }
        for (int i = 0; i < 5; i++) {
            due("hired twice", x.speaker(i, 2), 2);
        }
        for (int i = 4; i >= 0; i--) {
            x.undo();
            for (int speaker = 0; speaker < 5; speaker++) {
                int left = speaker < i ? 1 : 0;
                int right = (speaker + 4) % 5 < i ? 1 : 0;
                due("hired of " + i, x.speaker(speaker, 2), left + right);
            }
        }
    }

    /** "(say, pass, hire, set, minutes)": nothing else is a thing done, nor is what is refused. */
    static void p13_noOtherThings() {
        CradlePairs x = two("word n 1;");
        x.say(0);
        x.say(0);
        x.hire(0, 1);
        x.hire(0, 0);
        x.minutes(0);
        x.minutes(201);
        x.tell(1, 5, true);
        x.forget();
        x.hold(0);
        x.who();
        x.calm(1, 0);
        x.couples(-1);
        x.slopeIn(50);
        x.year(50, 5);
        Due.tape(x, "#");
        x.read();
        due("one thing", x.count(9), 1);
        due("undone", x.undo(), true);
        due("slope", x.count(2), 10);
        due("none", x.undo(), false);
    }

    /** "(the last 40 can be)" */
    static void p13_theLastForty() {
        for (int things : new int[] {39, 40, 41, 42, 79, 80, 81, 100}) {
            CradlePairs x = new CradlePairs();
            for (int i = 0; i < things; i++) {
                x.minutes(1);
            }
            int can = Math.min(40, things);
            due("of " + things, x.count(9), can);
            for (int i = 1; i <= can; i++) {
                due("undo", x.undo(), true);
                due("minute", x.count(7), things - i);
                due("left", x.count(9), can - i);
            }
            due("no more", x.undo(), false);
            due("the first stay", x.count(7), things - can);
        }
    }

    /** "(the last 40 can be)": things done behind some that were undone. */
    static void p13_fortyAgain() {
        CradlePairs x = new CradlePairs();
        for (int i = 0; i < 45; i++) {
            x.minutes(1);
        }
        for (int i = 0; i < 10; i++) {
            x.undo();
        }
        for (int i = 0; i < 20; i++) {
            x.minutes(2);
        }
        due("minute", x.count(7), 75);
        due("things", x.count(9), 40);
        for (int i = 0; i < 40; i++) {
            due("undo", x.undo(), true);
        }
        due("no more", x.undo(), false);
        due("20 of the first stay", x.count(7), 15);
    }

    /** "nothing can be undone" behind a text without a FAULT; "A text with a FAULT changes nothing". */
    static void p13_notAcrossAText() {
        CradlePairs x = two("word n 1;");
        x.say(0);
        Due.tape(x, "tilt");
        x.read();
        due("kept with a fault", x.count(9), 1);
        due("undone", x.undo(), true);
        x.say(0);
        Due.tape(x, "tilt 5;");
        x.read();
        due("none", x.count(9), 0);
        due("not undone", x.undo(), false);
        due("tilt", x.count(2), 5);
    }

    /** "undone": not what is TOLD, held, or on the tape. */
    static void p13_whatStays() {
        CradlePairs x = two("word n 1;");
        x.say(0);
        x.tell(1, 5, true);
        x.hold(2);
        x.feed(0, 0, 0, 0, 0);
        due("undo", x.undo(), true);
        due("TOLD", x.count(10), 1);
        due("held", x.count(11), 1);
        due("tape", x.count(8), 20);
        due("restore", x.restore(2), true);
        due("what was said", x.count(2), 11);
    }

    public static void main(String[] args) throws ReflectiveOperationException {
        Each.run(TurnBoundaryTest.class, 6, 13);
    }
}
