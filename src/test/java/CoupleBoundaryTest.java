/**
 * The boundary cases that the document names for couples and for chances by seeds: promises 26 to 30. The sentence that a
 * test is of stands above it.
 */
public final class CoupleBoundaryTest {
    private static final int MIN = Integer.MIN_VALUE;
    private static final int MAX = Integer.MAX_VALUE;
    private static final int[] OFF = {MIN, -5, -2, 5, 6, 100, MAX};
    private static final String TWO = "speaker a 1;speaker b 1;pair a b;";
    private static final String SIX = "word n 1;word o 2;word p 3;word q 4;word r 5;word s 6;";
    /** Two of tongues at most one apart are calm; else the one with the higher one wins. */
    private static final String TONGUES = "word x 1;word y 1;pushes=if tongue+1<other then 0 else if other+1<tongue then 5 else 1;";
    /** LEFT wins, if LEFT's tongue is the higher one; else they are calm. */
    private static final String HIGHER_LEFT = "word x 1;word y 1;pushes=if other*(1-side)<tongue*(1-side) then 5 else 1;";

    private static void due(String what, int got, int want) {
        Due.due(what, got, want);
    }

    private static String speakers(int... tongues) {
        StringBuilder b = new StringBuilder();
        for (int i = 0; i < tongues.length; i++) {
            b.append("speaker ").append((char) ('a' + i)).append(' ').append(tongues[i]).append(';');
        }
        return b.toString();
    }

    private static void couples(String text, int most, int... mates) {
        CradlePairs x = Due.told(text);
        due("how many", x.couples(-1), most);
        for (int i = 0; i < mates.length; i++) {
            due("with " + i, x.couples(i), mates[i]);
        }
        due("one beyond", x.couples(mates.length), -1);
    }

    private static void cheapest(String text, int two, int pay) {
        CradlePairs x = Due.told(text);
        due("the two", x.cheapest(0), two);
        due("how much", x.cheapest(1), pay);
    }

    private static CradlePairs awake() {
        CradlePairs x = Due.told(TWO + SIX + "pushes=9;tilt 19;");
        x.say(3);
        return x;
    }

    // ---- promise 26

    /** "NONE: no such SPEAKERS" */
    static void p26_noSuchSpeakers() {
        CradlePairs x = Due.told(speakers(1, 1, 1, 1, 1) + TONGUES);
        for (int off : OFF) {
            due("LEFT " + off, x.calm(off, 0), -1);
            due("RIGHT " + off, x.calm(0, off), -1);
            due("both " + off, x.calm(off, off), -1);
        }
        due("-1 as LEFT", x.calm(-1, 0), -1);
        due("-1 as RIGHT", x.calm(0, -1), -1);
        due("the fifth", x.calm(4, 3), 0);
        due("the fifth as RIGHT", x.calm(3, 4), 0);
        due("one alone", Due.told(speakers(1) + TONGUES).calm(0, 1), -1);
        due("a new one", new CradlePairs().calm(0, 1), -1);
    }

    /** "NONE: .. one and the same." */
    static void p26_oneAndTheSame() {
        CradlePairs x = Due.told(speakers(1, 1, 1, 1, 1) + TONGUES);
        for (int i = 0; i < 5; i++) {
            due("both " + i, x.calm(i, i), -1);
        }
    }

    /** "CALM of two SPEAKERS, unlike, the first LEFT: WHO" */
    static void p26_theFirstLeft() {
        CradlePairs x = Due.told(speakers(1, 9, 2) + TONGUES);
        due("RIGHT", x.calm(0, 1), 2);
        due("LEFT", x.calm(1, 0), 1);
        due("neither", x.calm(0, 2), 0);
        due("neither the other way", x.calm(2, 0), 0);
        CradlePairs y = Due.told(speakers(1, 9) + HIGHER_LEFT);
        due("the lower one LEFT", y.calm(0, 1), 0);
        due("the higher one LEFT", y.calm(1, 0), 1);
    }

    /** "CALM of two SPEAKERS": each two of five, one after the other. */
    static void p26_eachTwo() {
        int[] tongues = {1, 3, 5, 2, 9};
        CradlePairs x = Due.told(speakers(tongues) + TONGUES);
        for (int round = 0; round < 2; round++) {
            for (int left = 0; left < 5; left++) {
                for (int right = 0; right < 5; right++) {
                    int apart = tongues[left] - tongues[right];
                    int who = left == right ? -1 : apart > 1 ? 1 : apart < -1 ? 2 : 0;
                    due("calm of " + left + " and " + right, x.calm(left, right), who);
                }
            }
        }
    }

    /** "were they the PAIR and the cradle SET": whatever goes on, and nothing happens. */
    static void p26_wereTheySet() {
        CradlePairs x = awake();
        due("the PAIR, awake", x.calm(0, 1), 1);
        due("awake still", x.count(2), 20);
        due("who", x.who(), 1);
        CradlePairs y = Due.told(TWO + "word x 9;word y 1;");
        y.say(1);
        due("who behind y", y.who(), 2);
        due("SET", y.calm(0, 1), 1);
        due("who still", y.who(), 2);
        due("as the TILT is", Due.told(speakers(1, 1) + "word x 1;tilt 19;").calm(0, 1), 1);
        due("no words", Due.told(speakers(1, 1) + "tilt 19;").calm(0, 1), 0);
        Seen.nothingHappens(Seen::busy, z -> {
            z.calm(0, 1);
            z.calm(1, 2);
            z.calm(2, 0);
            z.calm(0, 0);
            z.calm(0, 3);
        });
    }

    // ---- promise 27

    /** "else with whom the i-th SPEAKER ..; NONE: no such SPEAKER." */
    static void p27_noSuchSpeaker() {
        CradlePairs x = Due.told(speakers(1, 1, 1, 1, 1) + TONGUES);
        for (int off : OFF) {
            due("with " + off, x.couples(off), -1);
        }
        due("the fifth", x.couples(4), -2);
        due("the fourth", x.couples(3), 2);
        due("of four, a fifth", Due.told(speakers(1, 1, 1, 1) + TONGUES).couples(4), -1);
        due("of none, a first", new CradlePairs().couples(0), -1);
    }

    /** "how many (i NONE)": none, and as many as there can be of five. */
    static void p27_howMany() {
        couples("", 0);
        couples(speakers(5), 0, -2);
        couples(speakers(5, 5) + TONGUES, 1, 1, 0);
        couples(speakers(5, 5, 5) + TONGUES, 1, 1, 0, -2);
        couples(speakers(5, 5, 5, 5) + TONGUES, 2, 1, 0, 3, 2);
        couples(speakers(5, 5, 5, 5, 5) + TONGUES, 2, 1, 0, 3, 2, -2);
        couples(speakers(1, 3, 5, 7, 9) + TONGUES, 0, -2, -2, -2, -2, -2);
    }

    /** "the most that there can be": not the lowest for the first, if there were fewer then. */
    static void p27_theMost() {
        // c (1), a (2), b (3), d (4): each with the next one only
        couples(speakers(2, 3, 1, 4) + TONGUES, 2, 2, 3, 0, 1);
        // a with c or d, b with c alone
        couples(speakers(5, 7, 6, 4) + TONGUES, 2, 3, 2, 1, 0);
        // b, a, c, e in a row, d alone
        couples(speakers(3, 2, 4, 9, 5) + TONGUES, 2, 1, 0, 4, -2, 2);
    }

    /** "of alike ones the lowest for the first, nobody behind all, then for the next one" */
    static void p27_alikeOnes() {
        // c with a or with b
        couples(speakers(1, 3, 2) + TONGUES, 1, 2, -2, 0);
        // nobody for a; b with c, d or e
        couples(speakers(9, 1, 1, 1, 1) + TONGUES, 2, -2, 2, 1, 4, 3);
        // a with d or e, b and c with one another
        couples(speakers(1, 7, 7, 1, 1) + TONGUES, 2, 3, 2, 1, 0, -2);
        // a alone with c; b with c, too, then with nobody
        couples(speakers(1, 3, 2, 9, 9) + TONGUES, 2, 2, -2, 0, 4, 3);
    }

    /** "the lesser number LEFT, of whom CALM is 0" */
    static void p27_theLesserLeft() {
        couples(speakers(1, 9) + HIGHER_LEFT, 1, 1, 0);
        couples(speakers(9, 1) + HIGHER_LEFT, 0, -2, -2);
        couples(speakers(1, 1) + "word x 9;tilt 11;", 0, -2, -2);
    }

    /** "each SPEAKER in one at most": with whom one is, is with that one. */
    static void p27_oneAtMost() {
        int[][] all = {{1, 2, 3, 4, 5}, {5, 4, 3, 2, 1}, {1, 3, 2, 4, 5}, {9, 1, 8, 2, 1}, {2, 2, 2, 3, 1}};
        for (int[] tongues : all) {
            CradlePairs x = Due.told(speakers(tongues) + TONGUES);
            int in = 0;
            for (int i = 0; i < 5; i++) {
                int mate = x.couples(i);
                if (mate != -2) {
                    in++;
                    due("with one another", x.couples(mate), i);
                    due("calm", x.calm(Math.min(i, mate), Math.max(i, mate)), 0);
                }
            }
            due("two in each", in, 2 * x.couples(-1));
        }
    }

    // ---- promise 28

    /** "what 0 .., 1 .. NONE for others." */
    static void p28_noSuchWhat() {
        CradlePairs[] all = {new CradlePairs(), Due.told(speakers(1, 1) + TONGUES)};
        for (CradlePairs x : all) {
            for (int what : new int[] {MIN, -2, -1, 2, 3, MAX}) {
                due("what " + what, x.cheapest(what), -1);
            }
        }
    }

    /** "-2: none." */
    static void p28_none() {
        cheapest("", -2, -2);
        cheapest(speakers(1), -2, -2);
        cheapest(speakers(1, 9) + TONGUES, -2, -2);
        cheapest(speakers(9, 1) + HIGHER_LEFT, -2, -2);
        cheapest(speakers(1, 1) + "word x 9;tilt 11;wages=0;", -2, -2);
    }

    /** "what 0 the two (10 * the lesser + the other)": from the first two to the last two of five. */
    static void p28_theTwo() {
        cheapest(speakers(1, 1) + TONGUES, 1, 2);
        cheapest(speakers(1, 3, 5, 7, 7) + TONGUES, 34, 14);
        cheapest(speakers(1, 3, 5, 7, 1) + TONGUES, 4, 2);
    }

    /** "with WAGES of both, SET, least": 0 at least, 198 at most. */
    static void p28_least() {
        cheapest(speakers(5, 5, 4) + TONGUES, 2, 9);
        cheapest(speakers(1, 1) + TONGUES + "wages=0-5;", 1, 0);
        cheapest(speakers(1, 1) + TONGUES + "wages=9999;", 1, 198);
        cheapest(speakers(1, 1) + TONGUES + "wages=1/0;", 1, 0);
        cheapest(speakers(1, 1) + TONGUES + "tilt 12;wages=slope+last*50;", 1, 24);
        // the lesser one as LEFT, told by side
        cheapest(speakers(3, 2, 2) + TONGUES + "wages=tongue*(1+side*10);", 12, 24);
    }

    /** "of whom .. CALM is 0 .. least": cheaper ones, of whom it is not, do not count. */
    static void p28_notTheCheaperOnes() {
        cheapest(speakers(0, 2, 9, 9) + TONGUES, 23, 18);
        cheapest(speakers(0, 9, 9, 2, 3) + TONGUES, 34, 5);
    }

    /** "of alike ones the first" */
    static void p28_alikeOnes() {
        cheapest(speakers(1, 1, 1, 1, 1) + TONGUES, 1, 2);
        cheapest(speakers(9, 4, 3, 4, 3) + TONGUES, 24, 6);
        cheapest(speakers(9, 5, 4, 4, 5) + TONGUES + "wages=7;", 12, 14);
        cheapest(speakers(1, 3, 2, 2) + TONGUES, 2, 3);
    }

    /** "SET": whatever goes on; nothing is paid. */
    static void p28_nothingHappens() {
        Seen.nothingHappens(Seen::busy, x -> {
            x.cheapest(0);
            x.cheapest(1);
            x.couples(-1);
            x.couples(0);
            x.couples(7);
        });
        CradlePairs x = Due.told(speakers(1, 1) + "word x 1;word y 1;pair a b;wages=slope+last*9;");
        x.say(0);
        due("the SET cradle's", x.cheapest(1), 20);
    }

    // ---- promise 29

    /** "IN n MINUTES (0 .. 200)", "NONE: no such n." */
    static void p29_noSuchNumber() {
        CradlePairs[] all = {new CradlePairs(), awake(), Due.told(TWO + SIX)};
        for (CradlePairs x : all) {
            for (int n : new int[] {MIN, -200, -1, 201, 1000, MAX}) {
                due("slopeIn " + n, x.slopeIn(n), -1);
            }
        }
        due("200 of nobody", all[0].slopeIn(200), 10);
        due("200, awake", all[1].slopeIn(200), 20);
        due("200", all[2].slopeIn(200) % 20, 0);
    }

    /** "IN n MINUTES .. the SLOPE": in 0 as it is now. */
    static void p29_inNone() {
        due("now", Due.told(TWO + SIX + "tilt 3;").slopeIn(0), 3);
        due("awake", awake().slopeIn(0), 20);
        due("nobody", Due.told("tilt 19;").slopeIn(0), 19);
    }

    /** "A MINUTE": by lot, by passing, awake, with nobody there. */
    static void p29_minutes() {
        CradlePairs x = Due.told(TWO + SIX + "seed 7;");
        int[] slopes = {10, 15, 12, 17, 13, 19, 15, 16, 11, 14, 13, 15};
        for (int n = 0; n < slopes.length; n++) {
            due("in " + n, x.slopeIn(n), slopes[n]);
        }
        due("in 200", x.slopeIn(200), 0);
        due("passing", Due.told(TWO + "tilt 19;rests=2;").slopeIn(3), 13);
        due("nobody", Due.told("tilt 19;rests=2;").slopeIn(3), 19);
        due("it wakes and stays so", Due.told(TWO + "word x 1;").slopeIn(19), 20);
        due("ahead of that", Due.told(TWO + "word x 1;").slopeIn(18), 19);
    }

    /** "IN n MINUTES": from the minute that it is, as if these went by; nothing happens. */
    static void p29_fromNowOn() {
        CradlePairs x = Due.told(TWO + SIX + "seed 7;pushes=force/2;");
        for (int i = 0; i < 12; i++) {
            int due = x.slopeIn(17);
            int now = x.count(2);
            due("now", x.slopeIn(0), now);
            x.minutes(17);
            due("as it came", x.count(2), due);
        }
        Seen.nothingHappens(Seen::busy, y -> {
            y.slopeIn(0);
            y.slopeIn(200);
            y.slopeIn(201);
        });
    }

    // ---- promise 30

    /** "by s SEEDS (1 .. 20)", "n MINUTES (0 .. 200)", "NONE: no such ones." */
    static void p30_noSuchNumbers() {
        CradlePairs[] all = {new CradlePairs(), awake(), Due.told(TWO + SIX)};
        for (CradlePairs x : all) {
            for (int n : new int[] {MIN, -1, 201, MAX}) {
                due("n " + n, x.year(n, 1), -1);
                due("n " + n + " by 20", x.year(n, 20), -1);
            }
            for (int s : new int[] {MIN, -1, 0, 21, MAX}) {
                due("s " + s, x.year(0, s), -1);
                due("s " + s + " in 200", x.year(200, s), -1);
            }
        }
        due("least", all[2].year(0, 1), 0);
        due("most", all[2].year(200, 20), 20);
    }

    /** "in how many of them the child is awake": now awake, nobody there, in no minutes. */
    static void p30_allOrNone() {
        for (int s = 1; s <= 20; s++) {
            due("awake", awake().year(0, s), s);
            due("nobody", Due.told(speakers(1, 1) + SIX).year(200, s), 0);
            due("in 0", Due.told(TWO + SIX).year(0, s), 0);
            due("passing", Due.told(TWO + "tilt 19;").year(200, s), 0);
            due("whatever is said", Due.told(TWO + SIX + "tilt 19;").year(1, s), s);
        }
    }

    /** "by s SEEDS .. from the text's SEED on": as one who has each of them. */
    static void p30_fromTheTextsSeedOn() {
        String text = TWO + SIX;
        for (int seed : new int[] {0, 7, 9980}) {
            CradlePairs x = Due.told(text + "seed " + seed + ";");
            int awake = 0;
            for (int s = 1; s <= 20; s++) {
                awake += Due.told(text + "seed " + (seed + s - 1) + ";").slopeIn(10) % 20 == 0 ? 1 : 0;
                due("seed " + seed + " by " + s, x.year(10, s), awake);
            }
        }
        due("by 20 from 7 in 20", Due.told(text + "seed 7;").year(20, 20), 12);
        due("by 5 from 7 in 20", Due.told(text + "seed 7;").year(20, 5), 2);
        due("not told: from 0", Due.told(text).year(20, 20), 14);
    }

    /** "from the text's SEED on": beyond 9999, too. */
    static void p30_beyond9999() {
        CradlePairs x = Due.told(TWO + SIX + "seed 9999;");
        due("one, in 5", x.year(5, 1), 0);
        due("20, in 5", x.year(5, 20), 3);
        due("20, in 10", x.year(10, 20), 6);
        due("5, in 20", x.year(20, 5), 3);
        due("20, in 20", x.year(20, 20), 14);
        due("from 9990", Due.told(TWO + SIX + "seed 9990;").year(5, 20), 4);
    }

    /** "What would be (nothing happens)": from the minute that it is. */
    static void p30_fromNowOn() {
        String text = TWO + SIX + "pushes=force/2;";
        CradlePairs x = Due.told(text + "seed 3;");
        x.minutes(4);
        int awake = 0;
        for (int seed = 3; seed < 23; seed++) {
            awake += wakes(Due.told(text + "seed " + seed + ";"), x) ? 1 : 0;
        }
        due("by 20 in 30", x.year(30, 20), awake);
        Seen.nothingHappens(Seen::busy, z -> {
            z.year(200, 20);
            z.year(0, 1);
            z.year(201, 1);
            z.year(1, 21);
        });
    }

    /** By another seed: in the same minute, brought by hand to where x is after its four minutes. */
    private static boolean wakes(CradlePairs y, CradlePairs x) {
        CradlePairs twin = Due.told(TWO + SIX + "pushes=force/2;seed 3;");
        int[] said = new int[4];
        for (int i = 0; i < 4; i++) {
            twin.minutes(1);
            said[i] = twin.count(4);
        }
        y.minutes(4);
        y.set();
        for (int word : said) {
            y.say(word);
        }
        due("as the other one stands", y.count(2) * 100 + y.count(4), x.count(2) * 100 + x.count(4));
        return y.slopeIn(30) % 20 == 0;
    }

    public static void main(String[] args) throws ReflectiveOperationException {
        Each.run(CoupleBoundaryTest.class, 26, 30);
    }
}
