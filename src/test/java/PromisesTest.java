/** A new object and promises 6 to 37, by answers worked out by hand. */
public final class PromisesTest {
    /** One who says x says y next: 19, 18, 20 or 11, 2, 3, 0. */
    private static final String SHORT = "speaker a 1;speaker b 1;word x 9;word y 1;pair a b;";
    /** They can go on for ever, between 10 and 12 or between 8 and 10. */
    private static final String CALM = "speaker a 1;speaker b 1;word x 2;word y 2;pair a b;";
    /** RIGHT does not push; LEFT wins by x, if RIGHT has had no chance to say x. */
    private static final String BLOCK = "speaker a 1;speaker b 1;word x 3;word y 0;word z 0;pair a b;pushes=if side<1 then force else 0;";
    /** Nobody says anything. */
    private static final String MUTE = "speaker a 1;speaker b 1;word x 2;pair a b;bars=1;";
    /** One, two, .. six, by lot. */
    private static final String LOTS = "speaker a 1;speaker b 1;word n 1;word o 2;word p 3;word q 4;word r 5;word s 6;pair a b;";
    /** Two of tongues at most one apart are calm; else the higher one wins. */
    private static final String TONGUES = "word x 1;word y 1;pushes=if tongue+1<other then 0 else if other+1<tongue then 5 else 1;";
    private static final int MIN = Integer.MIN_VALUE;
    private static final int MAX = Integer.MAX_VALUE;

    private static void due(String what, int got, int want) {
        Due.due(what, got, want);
    }

    private static void due(String what, boolean got, boolean want) {
        Due.due(what, got, want);
    }

    private static void newObject() {
        CradlePairs x = new CradlePairs();
        int[] counts = {0, 0, 10, 0, -2, -2, -2, 0, 0, 0, 0, 0, 0, 0};
        for (int what = 0; what < counts.length; what++) {
            due("1: count " + what, x.count(what), counts[what]);
        }
        due("1: speaker", x.speaker(0, 0), -1);
        due("1: word", x.word(0, 0), -1);
        due("1: place", x.place(), -1);
        due("1: undo", x.undo(), false);
        due("1: restore", x.restore(0), false);
        due("1: set", x.set(), false);
        due("1: NONE", CradlePairs.NONE, -1);
    }

    private static void speaker() {
        CradlePairs x = Due.told("speaker a 3;speaker b 9;speaker c 0;pair b a;");
        int[][] all = {{3, 1, 0}, {9, 0, 0}, {0, -2, 0}};
        for (int s = 0; s < 3; s++) {
            for (int what = 0; what < 3; what++) {
                due("6: speaker " + s + " " + what, x.speaker(s, what), all[s][what]);
            }
        }
        due("6: below", x.speaker(-1, 0), -1);
        due("6: beyond", x.speaker(3, 0), -1);
        due("6: what -1", x.speaker(0, -1), -1);
        due("6: what 3", x.speaker(0, 3), -1);
        x.hire(2, 0);
        x.hire(0, 2);
        due("6: hired twice", x.speaker(0, 2), 2);
        due("6: hired twice c", x.speaker(2, 2), 2);
        due("6: not hired", x.speaker(1, 2), 0);
        due("6: left", x.speaker(0, 1), 0);
        due("6: gone", x.speaker(1, 1), -2);
        x.undo();
        due("6: hired once", x.speaker(0, 2), 1);
    }

    private static void word() {
        CradlePairs x = Due.told("speaker a 3;speaker b 9;word x 4;word y 4;word z 1;pair a b;bars=which-1;"
            + "pushes=force*10+same*100-tongue-other*4-last;");
        due("7: force", x.word(1, 0), 4);
        due("7: can", x.word(0, 1), 1);
        due("7: bars", x.word(2, 3), 1);
        due("7: no bars", x.word(1, 3), 0);
        due("7: can not", x.word(2, 1), 0);
        due("7: pushes of 1", x.word(0, 2), 1);
        due("7: pushes below 0", x.word(2, 2), 0);
        x.say(0);
        due("7: the last", x.word(0, 1), 0);
        due("7: pushes above 9", x.word(1, 2), 9);
        due("7: same as itself", x.word(0, 2), 9);
        due("7: below", x.word(-1, 0), -1);
        due("7: beyond", x.word(3, 0), -1);
        due("7: what 4", x.word(0, 4), -1);
        due("7: what -1", x.word(0, -1), -1);
        CradlePairs nobody = Due.told("speaker a 3;word x 4;bars=1;");
        due("7: nobody: can", nobody.word(0, 1), 0);
        due("7: nobody: pushes", nobody.word(0, 2), 0);
        due("7: nobody: bars", nobody.word(0, 3), 0);
        CradlePairs awake = Due.told("speaker a 3;speaker b 9;word x 9;pair a b;tilt 19;bars=side;");
        awake.say(0);
        due("7: awake: can", awake.word(0, 1), 0);
        due("7: awake: pushes", awake.word(0, 2), 9);
        due("7: awake: bars", awake.word(0, 3), 1);
    }

    private static int pushes(String law) {
        return Due.told("speaker a 3;speaker b 7;word x 4;word y 2;word z 5;pair a b;tilt 6;pushes=" + law + ";").word(1, 2);
    }

    private static void laws() {
        due("vars: force", pushes("force"), 2);
        due("vars: tongue", pushes("tongue"), 3);
        due("vars: slope", pushes("slope"), 6);
        due("vars: last", pushes("last+5"), 5);
        due("vars: side", pushes("side+5"), 5);
        due("vars: which", pushes("which"), 1);
        due("vars: other", pushes("other"), 7);
        due("vars: words", pushes("words"), 3);
        due("vars: same", pushes("same+5"), 5);
        due("left to right", pushes("9-3-2"), 4);
        due("products first", pushes("1+2*3"), 7);
        due("brackets", pushes("(1+2)*3"), 9);
        due("from left", pushes("8/4*2"), 4);
        due("towards 0", pushes("(0-7)/2+5"), 2);
        due("by 0", pushes("5+1/(1-1)"), 0);
        due("by 0 not looked at", pushes("if 1<2 then 3 else 1/0"), 3);
        due("by 0 not looked at, then", pushes("if 2<1 then 1/0 else 4"), 4);
        due("by 0 in an if", pushes("if 1/0<1 then 3 else 4"), 0);
        due("by 0 in a later if", pushes("if 1<2 then 3 else if 1/0<1 then 3 else 4"), 3);
        due("less", pushes("if 2<2 then 3 else 4"), 4);
        due("the first that holds", pushes("if 2<1 then 1 else if 1<2 then 2 else if 1<2 then 3 else 4"), 2);
        due("wraps", pushes("0-9999*9999*9999/9999/9999/2"), 5);
        due("wraps below", pushes("if 9999*9999*30<0 then 7 else 1"), 7);
        due("least by less", pushes("if (0-2*(4*4*4*4*4*4*4*4*4*4*4*4*4*4*4))/(0-1)<0 then 8 else 1"), 8);
        due("the last law", pushes("1;pushes=2"), 2);
        due("held above", pushes("10"), 9);
        due("held below", pushes("0-1"), 0);
        CradlePairs x = Due.told("speaker a 3;speaker b 7;word x 4;word y 4;word z 1;pair a b;tilt 6;pushes=last*2+side+same;");
        x.say(2);
        due("last, side", x.word(0, 2), 7);
        x.say(0);
        due("same", x.word(1, 2), 3);
    }

    private static void say() {
        CradlePairs x = Due.told(SHORT + "bars=if slope<19 then 0 else which;");
        due("8: below", x.say(-1), -1);
        due("8: beyond", x.say(2), -1);
        due("8: 6", x.say(6), -1);
        due("8: MIN", x.say(MIN), -1);
        due("8: LEFT", x.say(0), 19);
        due("8: turn", x.count(3), 1);
        due("8: last", x.count(4), 0);
        due("8: the last", x.say(0), -1);
        due("8: barred", x.say(1), -1);
        due("8: pass", x.pass(), 19);
        due("8: to 20", x.say(0), 20);
        due("8: awake", x.say(1), -1);
        due("8: done", x.count(9), 3);
        CradlePairs y = Due.told(SHORT + "tilt 3;");
        y.say(1);
        due("8: RIGHT to 0", y.say(0), 0);
        due("8: nobody", Due.told("word x 1;").say(0), -1);
    }

    private static void pass() {
        CradlePairs x = Due.told(MUTE + "tilt 13;rests=2;");
        due("9: nearer", x.pass(), 11);
        due("9: turn", x.count(3), 1);
        due("9: not beyond", x.pass(), 10);
        due("9: level", x.pass(), 10);
        CradlePairs y = Due.told(MUTE + "tilt 1;rests=99-90*side;");
        due("9: held", y.pass(), 10);
        CradlePairs z = Due.told(SHORT);
        due("9: some can be said", z.pass(), -1);
        z.say(0);
        z.say(1);
        z.say(0);
        due("9: awake", z.pass(), -1);
        due("9: nobody", Due.told("word x 1;").pass(), -1);
        CradlePairs l = Due.told("speaker a 3;speaker b 7;word x 4;word y 1;pair a b;tilt 1;bars=side;"
            + "rests=last+force+which+same+side+words+other-tongue;");
        l.say(1);
        due("9: rests of no word", l.pass(), 3);
        due("9: none is the last", l.count(4), -2);
    }

    private static void hire() {
        CradlePairs x = Due.told("speaker a 3;speaker b 7;speaker c 2;word x 4;word y 4;tilt 6;"
            + "wages=slope*10+tongue+other*2+side*5+words+last+force+which+same;");
        due("10: one", x.hire(1, 1), -1);
        due("10: below", x.hire(-1, 1), -1);
        due("10: beyond", x.hire(0, 3), -1);
        due("10: MAX", x.hire(MAX, MIN), -1);
        due("10: nothing", x.count(9), 0);
        due("10: paid", x.hire(0, 1), 60 + 3 + 14 + 2 + 60 + 7 + 6 + 5 + 2);
        due("10: so already", x.hire(0, 1), -1);
        x.say(0);
        due("10: so already, not set", x.hire(0, 1), -1);
        due("10: other way", x.hire(1, 0), 159);
        due("10: set", x.count(2) * 100 + x.count(3) * 10 + x.count(4), 598);
        due("10: all paid", x.count(12), 318);
        due("10: LEFT", x.count(5), 1);
        due("10: RIGHT", x.count(6), 0);
        CradlePairs y = Due.told("speaker a 3;speaker b 7;wages=if side<1 then 100 else 0-5;");
        due("10: held", y.hire(0, 1), 99);
        CradlePairs z = Due.told("speaker a 3;speaker b 7;speaker c 2;pair a b;");
        z.minutes(5);
        due("10: text's pair", z.hire(0, 1), -1);
        due("10: tongues", z.hire(0, 2), 5);
        due("10: the minute goes on", z.count(7), 5);
    }

    private static void set() {
        CradlePairs x = Due.told(CALM + "tilt 7;");
        due("11: is set", x.set(), false);
        x.say(0);
        due("11: set", x.set(), true);
        due("11: slope", x.count(2), 7);
        due("11: turn", x.count(3), 0);
        due("11: last", x.count(4), -2);
        due("11: again", x.set(), false);
        due("11: things", x.count(9), 2);
        CradlePairs y = Due.told(MUTE);
        y.pass();
        due("11: only the turn", y.set(), true);
        y.pass();
        y.pass();
        due("11: come to by passing", y.set(), false);
    }

    private static void minutes() {
        CradlePairs x = Due.told(LOTS + "pushes=0;seed 7;");
        int[] said = {4, 2, 4, 3, 5, 3, 0, 4, 2, 0, 1, 5};
        for (int i = 0; i < said.length; i++) {
            due("12: minute", x.minutes(1), i + 1);
            due("12: said", x.count(4), said[i]);
        }
        due("12: 0", x.minutes(0), 12);
        due("12: 0 is no thing", x.count(9), 12);
        due("12: -1", x.minutes(-1), -1);
        due("12: 201", x.minutes(201), -1);
        due("12: 200", x.minutes(200), 212);
        due("12: one thing", x.count(9), 13);
        CradlePairs y = Due.told(LOTS + "pushes=0;seed 9999;");
        y.minutes(12);
        due("12: all at once", y.count(4), 1);
        CradlePairs z = Due.told(SHORT);
        due("12: awake", z.minutes(10), 10);
        due("12: woken", z.count(2) % 20, 0);
        CradlePairs m = Due.told(MUTE + "tilt 16;rests=1;");
        m.minutes(4);
        due("12: passes", m.count(2), 12);
        due("12: nobody", new CradlePairs().minutes(200), 200);
    }

    private static void undo() {
        CradlePairs x = Due.told(LOTS + "speaker c 5;");
        x.say(2);
        x.minutes(3);
        x.hire(0, 2);
        x.say(1);
        x.set();
        due("13: things", x.count(9), 5);
        due("13: set", x.undo(), true);
        due("13: slope", x.count(2), 12);
        due("13: say", x.undo(), true);
        due("13: last", x.count(4), -2);
        due("13: hire", x.undo(), true);
        due("13: paid", x.count(12), 0);
        due("13: RIGHT", x.count(6), 1);
        due("13: hired", x.speaker(0, 2), 0);
        due("13: minutes", x.undo(), true);
        due("13: minute", x.count(7), 0);
        due("13: slope", x.count(2), 13);
        due("13: turn", x.count(3), 1);
        due("13: first", x.undo(), true);
        due("13: level", x.count(2), 10);
        due("13: none", x.undo(), false);
        for (int i = 0; i < 45; i++) {
            x.minutes(1);
        }
        due("13: 40", x.count(9), 40);
        for (int i = 0; i < 40; i++) {
            due("13: one of 40", x.undo(), true);
        }
        due("13: no more", x.undo(), false);
        due("13: the first five stay", x.count(7), 5);
        CradlePairs p = Due.told(MUTE);
        p.pass();
        due("13: pass", p.undo(), true);
        due("13: turn of pass", p.count(3), 0);
        p.pass();
        Due.tape(p, "#");
        p.read();
        due("13: a fault keeps it", p.count(9), 1);
        Due.tape(p, MUTE);
        p.read();
        due("13: not across a text", p.undo(), false);
    }

    private static void wins() {
        CradlePairs x = Due.told(SHORT);
        due("14", x.who(), 1);
        due("15", x.soon(), 3);
        due("16", x.best(), 0);
        due("25: x", x.scale(0), 1);
        due("25: y", x.scale(1), 2);
        due("25: below", x.scale(-1), -1);
        due("25: beyond", x.scale(2), -1);
        x.say(1);
        due("14: RIGHT", x.who(), 2);
        due("15: RIGHT", x.soon(), 3);
        due("16: RIGHT", x.best(), 0);
        due("25: the last", x.scale(1), -2);
        x.say(0);
        due("16: no other", x.best(), 1);
        x.say(1);
        due("25: waking", x.scale(0), 2);
        x.say(0);
        due("14: awake", x.who(), 2);
        due("15: awake", x.soon(), 0);
        due("16: awake", x.best(), -2);
        due("25: awake", x.scale(0), -2);
        CradlePairs late = Due.told("speaker a 1;speaker b 1;word x 2;word y 3;pair a b;pushes=if side<1 then which else force;");
        due("14: put off", late.who(), 2);
        due("15: put off", late.soon(), 20);
        due("16: put off", late.best(), 1);
        CradlePairs early = Due.told("speaker a 1;speaker b 1;word x 2;word y 3;pair a b;pushes=if side<1 then force else which;");
        due("15: soonest", early.soon(), 7);
        due("16: soonest", early.best(), 1);
        due("25: later", early.scale(0), 1);
        due("25: first of all", Due.told(CALM + "bars=which;").scale(1), -2);
        CradlePairs nobody = Due.told("speaker a 1;word x 9;");
        due("14: nobody", nobody.who(), 0);
        due("15: nobody", nobody.soon(), -2);
        due("16: nobody", nobody.best(), -2);
        due("25: nobody", nobody.scale(0), -2);
    }

    private static void neither() {
        CradlePairs x = Due.told(BLOCK);
        due("14: x each time", x.who(), 1);
        due("15: x each time", x.soon(), 7);
        due("16: x", x.best(), 0);
        due("25: x", x.scale(0), 1);
        due("25: y", x.scale(1), 0);
        due("24: x", x.hangs(), 1);
        due("21: none comes again", x.ring(), -2);
        x.say(0);
        due("16: alike ones", x.best(), 1);
        x.set();
        x.say(1);
        due("14: neither", x.who(), 0);
        due("15: neither", x.soon(), -2);
        due("16: the one that holds", x.best(), 0);
        due("25: z", x.scale(2), 1);
        due("21: x, y", x.ring(), 2);
        due("24: without x nothing moves", x.hangs(), 0);
        CradlePairs c = Due.told(CALM);
        due("24: both", c.hangs(), 3);
        due("16: first", c.best(), 0);
        CradlePairs m = Due.told(MUTE);
        due("16: to pass", m.best(), 6);
        due("24: none", m.hangs(), 0);
        CradlePairs a = Due.told("speaker a 1;speaker b 1;word x 9;pair a b;tilt 19;");
        a.say(0);
        due("24: awake", a.hangs(), 0);
        due("24: nobody", Due.told("word x 1;").hangs(), 0);
    }

    private static void walks() {
        CradlePairs x = Due.told(SHORT);
        due("17", x.together(), 3);
        int[] even = {0, 1, 8, 8, -2, -2};
        int[] ways = {1, 2, 2, 1, 0, 0};
        int[] waking = {0, 0, 0, 1, 2, 2};
        for (int n = 0; n < 6; n++) {
            due("18: " + n, x.even(n), even[n]);
            due("19: " + n, x.ways(n), ways[n]);
            due("20: " + n, x.waking(n), waking[n]);
        }
        due("18: -1", x.even(-1), -1);
        due("18: 41", x.even(41), -1);
        due("18: 40", x.even(40), -2);
        due("19: -1", x.ways(-1), -1);
        due("19: 8", x.ways(8), -1);
        due("20: -1", x.waking(-1), -1);
        due("20: 8", x.waking(8), -1);
        due("20: 7", x.waking(7), 2);
        due("21", x.ring(), -2);
        due("22", x.reach(), 8);
        due("23", x.slopes(), 1 << 20 | 1 << 19 | 1 << 18 | 1 << 11 | 1 << 10 | 1 << 3 | 1 << 2 | 1);
        CradlePairs six = Due.told(LOTS + "pushes=0;");
        due("19: all rows", six.ways(7), 6 * 5 * 5 * 5 * 5 * 5 * 5);
        due("17: for ever", six.together(), 200);
        due("22: all", six.reach(), 13);
        CradlePairs all = Due.told(LOTS + "pushes=9;tilt 19;");
        due("20: at once", all.waking(1), 6);
        due("17: at once", all.together(), 0);
        due("18: at once", all.even(1), -2);
        all.say(3);
        due("17: awake", all.together(), 0);
        due("18: awake", all.even(0), -2);
        due("19: awake", all.ways(0), 0);
        due("20: awake", all.waking(7), 0);
        due("21: awake", all.ring(), -2);
        due("22: awake", all.reach(), 1);
        due("23: awake", all.slopes(), 1 << 20);
    }

    private static void longWalks() {
        CradlePairs m = Due.told(MUTE + "tilt 8;rests=1;");
        due("17: passing", m.together(), 200);
        due("18: now", m.even(0), 2);
        due("18: ahead of all", m.even(40), 2);
        due("21: not again", m.ring(), -2);
        due("22: passing", m.reach(), 4);
        due("23: passing", m.slopes(), 1 << 8 | 1 << 9 | 1 << 10);
        m.minutes(4);
        due("21: two passes", m.ring(), 2);
        CradlePairs c = Due.told(CALM);
        due("18: 40", c.even(40), 2);
        due("22: calm", c.reach(), 5);
        c.say(0);
        due("21: calm", c.ring(), 2);
        due("23: calm", c.slopes(), 1 << 12 | 1 << 10);
        // LEFT takes one step up in every other turn: nine steps from 10 to 19, then the last
        CradlePairs up = Due.told("speaker a 1;speaker b 1;word x 1;pair a b;bars=side;");
        due("17: nine steps up", up.together(), 18);
        due("15: nine steps up", up.soon(), 19);
        CradlePairs both = Due.told("speaker a 1;speaker b 1;word x 1;word y 2;pair a b;bars=side;");
        due("17: by ones, though by twos it is sooner", both.together(), 18);
        due("15: by twos", both.soon(), 9);
        due("16: by twos", both.best(), 1);
        CradlePairs nobody = new CradlePairs();
        due("17: nobody", nobody.together(), 0);
        due("18: nobody 0", nobody.even(0), 0);
        due("18: nobody 1", nobody.even(1), -2);
        due("19: nobody 0", nobody.ways(0), 1);
        due("19: nobody 1", nobody.ways(1), 0);
        due("20: nobody", nobody.waking(7), 0);
        due("21: nobody", nobody.ring(), -2);
        due("22: nobody", nobody.reach(), 1);
        due("23: nobody", nobody.slopes(), 1024);
    }

    private static void couples() {
        CradlePairs x = Due.told("speaker a 3;speaker b 4;speaker c 2;speaker d 5;" + TONGUES);
        due("26: alike", x.calm(0, 1), 0);
        due("26: higher LEFT", x.calm(3, 0), 1);
        due("26: higher RIGHT", x.calm(0, 3), 2);
        due("26: one", x.calm(2, 2), -1);
        due("26: below", x.calm(-1, 2), -1);
        due("26: beyond", x.calm(0, 4), -1);
        due("26: nothing happens", x.count(5), -2);
        int[] mates = {2, 3, 0, 1};
        due("27: two", x.couples(-1), 2);
        for (int i = 0; i < 4; i++) {
            due("27: with " + i, x.couples(i), mates[i]);
        }
        due("27: beyond", x.couples(4), -1);
        due("27: below", x.couples(-2), -1);
        due("28: two", x.cheapest(0), 2);
        due("28: how much", x.cheapest(1), 5);
        due("28: what", x.cheapest(2), -1);
        due("28: what -1", x.cheapest(-1), -1);
        CradlePairs five = Due.told("speaker a 1;speaker b 2;speaker c 9;speaker d 1;speaker e 9;" + TONGUES + "wages=20-tongue*2;");
        int[] with = {1, 0, 4, -2, 2};
        due("27: of five", five.couples(-1), 2);
        for (int i = 0; i < 5; i++) {
            due("27: of five with " + i, five.couples(i), with[i]);
        }
        due("28: of five", five.cheapest(0), 24);
        due("28: of five, how much", five.cheapest(1), 4);
        CradlePairs alike = Due.told("speaker a 1;speaker b 5;speaker c 5;speaker d 5;" + TONGUES + "wages=7;");
        due("28: the first", alike.cheapest(0), 12);
        due("28: 14", alike.cheapest(1), 14);
        due("27: one couple", alike.couples(-1), 1);
        due("27: nobody for a", alike.couples(0), -2);
        due("27: c for b", alike.couples(1), 2);
        CradlePairs none = Due.told("speaker a 1;speaker b 9;" + TONGUES);
        due("27: none", none.couples(-1), 0);
        due("28: none", none.cheapest(0), -2);
        due("28: none, how much", none.cheapest(1), -2);
        due("28: none, what", none.cheapest(2), -1);
        CradlePairs tilted = Due.told("speaker a 1;speaker b 1;word x 9;word y 1;tilt 2;");
        due("26: set by the tilt", tilted.calm(0, 1), 1);
    }

    private static void chances() {
        CradlePairs x = Due.told(LOTS + "seed 7;");
        int[] slopes = {10, 15, 12, 17, 13, 19, 15, 16, 11, 14, 13};
        for (int n = 0; n < slopes.length; n++) {
            due("29: in " + n, x.slopeIn(n), slopes[n]);
        }
        due("29: -1", x.slopeIn(-1), -1);
        due("29: 201", x.slopeIn(201), -1);
        due("30: in 0", x.year(0, 20), 0);
        due("30: in 5", x.year(5, 20), 1);
        due("30: in 5, three", x.year(5, 3), 0);
        due("30: in 5, four", x.year(5, 4), 1);
        due("30: in 8", x.year(8, 20), 6);
        due("30: in 20", x.year(20, 20), 12);
        due("30: in 20, five", x.year(20, 5), 2);
        due("30: -1", x.year(-1, 1), -1);
        due("30: 201", x.year(201, 1), -1);
        due("30: no seeds", x.year(1, 0), -1);
        due("30: 21 seeds", x.year(1, 21), -1);
        due("30: nothing happens", x.count(7), 0);
        x.minutes(4);
        due("29: from now on", x.slopeIn(3), 16);
        due("30: beyond 9999", Due.told(LOTS + "seed 9999;").year(10, 20), 6);
        CradlePairs a = Due.told("speaker a 1;speaker b 1;word x 9;pair a b;tilt 19;");
        a.say(0);
        due("30: awake", a.year(0, 20), 20);
        due("29: awake", a.slopeIn(200), 20);
        due("29: nobody", new CradlePairs().slopeIn(200), 10);
        due("30: nobody", new CradlePairs().year(200, 20), 0);
    }

    private static void told() {
        CradlePairs x = Due.told(SHORT);
        due("31: i 0", x.tell(0, 5, true), -1);
        due("31: i 6", x.tell(6, 5, true), -1);
        due("31: v -1", x.tell(1, -1, true), -1);
        due("31: v 21", x.tell(1, 21, true), -1);
        for (int i = 0; i < 20; i++) {
            due("31: number", x.tell(1 + i % 5, i, i % 2 == 0), i);
        }
        due("31: 21st", x.tell(1, 5, true), -1);
        due("31: told", x.count(10), 20);
        x.say(0);
        x.undo();
        due("31: stays", x.count(10), 20);
        due("32", x.forget(), 20);
        due("32: none", x.forget(), 0);
        due("31: from 0 on", x.tell(1, 19, false), 0);
        due("33: known by 0", x.rows(0, 3, 0), 2);
        due("33: first", x.rows(0, 3, 1), 0 * 49 + 1 * 7);
        due("33: known by 1", x.rows(1, 3, 0), 1);
        due("33: first known by 1", x.rows(1, 3, 1), 49 + 0 + 1);
        due("33: the last may wake", x.rows(0, 4, 0), 1);
        due("33: asleep ahead", x.rows(0, 5, 0), 0);
        due("33: none", x.rows(0, 5, 1), -2);
        due("31: of three turns", x.tell(3, 0, true), 1);
        due("33: of more than l", x.rows(2, 2, 0), 0);
        due("33: of l", x.rows(2, 3, 0), 1);
        due("33: k -1", x.rows(-1, 3, 0), -1);
        due("33: k 3", x.rows(3, 3, 0), -1);
        due("33: l 0", x.rows(0, 0, 0), -1);
        due("33: l 6", x.rows(0, 6, 0), -1);
        due("33: what 2", x.rows(0, 3, 2), -1);
        due("33: what -1", x.rows(0, 3, -1), -1);
        due("33: edge of v", x.tell(1, 11, false), 2);
        due("33: 11 is 11 or more", x.rows(3, 3, 0), 0);
        CradlePairs m = Due.told(MUTE);
        due("33: passes", m.rows(0, 5, 1), 6 * 2401 + 6 * 343 + 6 * 49 + 6 * 7 + 6);
        Due.tape(m, "x");
        m.tell(1, 1, true);
        m.read();
        due("32: kept with a fault", m.count(10), 1);
        m.read();
        due("32: gone with a text", m.count(10), 0);
        due("33: nobody", m.rows(0, 1, 0), 0);
    }

    private static void listen() {
        // the slopes behind one turn are 11 .. 16; behind two 11 - 6 .. 16 - 1, five for each of the six
        CradlePairs x = Due.told(LOTS);
        due("34: halves", x.listen(0, 1, 14), 1);
        due("34: the second", x.listen(0, 2, 10), 2);
        due("34: the first", x.listen(0, 2, 14), 1);
        due("34: alike", x.listen(0, 5, 0), 1);
        due("34: none so", x.listen(0, 1, 20), 1);
        x.tell(1, 14, true);
        due("34: known", x.listen(1, 2, 14), 2);
        due("34: unknown", x.listen(0, 2, 14), 1);
        x.tell(1, 14, false);
        due("34: none fit", x.listen(2, 2, 14), -2);
        due("34: k", x.listen(3, 2, 14), -1);
        due("34: k -1", x.listen(-1, 2, 14), -1);
        due("34: l 0", x.listen(0, 0, 14), -1);
        due("34: l 6", x.listen(0, 6, 14), -1);
        due("34: v -1", x.listen(0, 1, -1), -1);
        due("34: v 21", x.listen(0, 1, 21), -1);
        // LEFT comes to 11, 12, 13 or to 12, 14, 16, and RIGHT changes nothing
        CradlePairs late = Due.told("speaker a 1;speaker b 1;word x 1;word y 2;pair a b;pushes=if side<1 then force else 0;");
        due("34: the fifth", late.listen(0, 5, 15), 5);
        due("34: the third", late.listen(0, 5, 13), 3);
        due("34: not the fifth yet", late.listen(0, 4, 15), 1);
        due("34: nobody", new CradlePairs().listen(0, 1, 1), -2);
    }

    private static void slots() {
        CradlePairs x = Due.told(LOTS + "speaker c 5;");
        due("35: -1", x.hold(-1), false);
        due("35: 3", x.hold(3), false);
        due("36: nothing held", x.restore(0), false);
        x.say(2);
        x.tell(1, 1, true);
        due("35: 0", x.hold(0), true);
        x.minutes(3);
        x.hire(0, 2);
        x.feed(1, 2, 3, 4, 5);
        x.tell(1, 1, true);
        due("35: 2", x.hold(2), true);
        due("35: held", x.count(11), 2);
        due("36: 1", x.restore(1), false);
        due("36: 3", x.restore(3), false);
        due("36: -1", x.restore(-1), false);
        due("36: nothing happened", x.count(9), 3);
        due("36: 0", x.restore(0), true);
        due("36: slope", x.count(2), 13);
        due("36: minute", x.count(7), 0);
        due("36: paid", x.count(12), 0);
        due("36: RIGHT", x.count(6), 1);
        due("36: hired", x.speaker(0, 2), 0);
        due("36: nothing to undo", x.undo(), false);
        due("36: told stays", x.count(10), 2);
        due("36: tape stays", x.count(8), 20);
        due("36: 2", x.restore(2), true);
        due("36: hired again", x.speaker(0, 2), 1);
        due("36: minute again", x.count(7), 3);
        due("36: paid again", x.count(12), 6);
        x.say(0);
        due("36: stays there", x.restore(2), true);
        due("36: set", x.count(4), -2);
        due("36: both stay", x.count(11), 2);
        x.read();
        due("36: a fault keeps them", x.count(11), 2);
        due("35: again in the same", x.hold(2), true);
        due("35: still two", x.count(11), 2);
        x.read();
        due("36: a text empties them", x.count(11), 0);
        due("36: none", x.restore(0), false);
    }

    /** What is reckoned is of the pair that is there, whichever way it came. */
    private static void otherPairs() {
        String text = "speaker a 1;speaker b 2;speaker c 9;word x 1;word y 1;pair a b;"
            + "pushes=if tongue<3 then 1 else 9;bars=if tongue<3 then 0 else which;";
        CradlePairs x = Due.told(text);
        due("10: WHO ahead", x.who(), 0);
        x.hold(0);
        x.hire(0, 2);
        due("10: WHO behind", x.who(), 1);
        x.hold(1);
        due("36: to a, b", x.restore(0), true);
        due("36: WHO", x.who(), 0);
        due("36: reach", x.reach(), 5);
        due("36: to a, c", x.restore(1), true);
        due("36: WHO there", x.who(), 1);
        x.say(1);
        due("36: barred", x.count(13), 1);
        due("36: said", x.say(0), 2);
        x.hire(2, 1);
        due("13: WHO ahead", x.who(), 1);
        x.undo();
        due("13: WHO", x.who(), 2);
        due("26: others", x.calm(2, 1), 1);
        due("26: WHO stays", x.who(), 2);
        x.undo();
        due("13: scale", x.scale(0), 2);
        Due.tape(x, text.replace("tongue<3", "tongue<99"));
        x.read();
        x.hire(0, 2);
        due("4: WHO by other laws", x.who(), 0);
        due("4: calm by other laws", x.calm(2, 1), 0);
    }

    private static void count() {
        CradlePairs x = Due.told(LOTS + "speaker c 5;tilt 12;bars=which-3;");
        x.say(1);
        x.tell(2, 2, false);
        x.hold(1);
        x.feed(0, 0, 0, 0, 0);
        int[] due = {3, 6, 14, 1, 1, 0, 1, 0, 20, 1, 1, 1, 0, 1 | 4 | 8};
        for (int what = 0; what < due.length; what++) {
            due("37: " + what, x.count(what), due[what]);
        }
        due("37: -1", x.count(-1), -1);
        due("37: 14", x.count(14), -1);
        due("37: MIN", x.count(MIN), -1);
    }

    private static void anew() {
        CradlePairs x = Due.told(LOTS + "tilt 12;seed 5;pushes=1;bars=side;");
        x.minutes(7);
        x.hire(1, 0);
        x.hold(0);
        Due.tape(x, "speaker a 4;speaker b 5;word w 3;pair b a;");
        due("4: read", x.read(), 0);
        int[] due = {2, 1, 10, 0, -2, 1, 0, 0, 0, 0, 0, 0, 0, 1};
        for (int what = 0; what < due.length; what++) {
            due("4: count " + what, x.count(what), due[what]);
        }
        due("4: not hired", x.speaker(1, 2), 0);
        due("4: pushes as untold", x.say(0), 13);
        due("4: bars as untold", x.word(0, 3), 0);
        due("4: calm anew", x.calm(0, 1), 1);
        for (int i = 0; i < 9; i++) {
            Due.tape(x, "speaker a 1;speaker b 1;word w 3;pair a b;pushes=" + "0+".repeat(150) + i + ";");
            x.read();
            due("4: long laws again and again", x.word(0, 2), i);
        }
        due("4: empty", x.read(), 0);
        due("4: nobody", x.count(0) + x.count(1), 0);
    }

    public static void main(String[] args) {
        newObject();
        speaker();
        word();
        laws();
        say();
        pass();
        hire();
        set();
        minutes();
        undo();
        wins();
        neither();
        walks();
        longWalks();
        couples();
        chances();
        told();
        listen();
        slots();
        otherPairs();
        count();
        anew();
        Due.end("PromisesTest");
    }
}
