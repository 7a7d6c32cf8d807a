import java.util.List;

/**
 * The boundary cases that the document names for a new object, the tape and texts: promises 1 to 5, with what Terms tells
 * of TOKENS, of the text's parts and of FAULTS. The sentence that a test is of stands above it.
 */
public final class TextBoundaryTest {
    private static final int MIN = Integer.MIN_VALUE;
    private static final int MAX = Integer.MAX_VALUE;
    private static final List<String> QUOTED = List.of("speaker", "word", "pair", "pushes", "wages", "rests", "bars", "tilt",
        "seed", "if", "then", "else", "force", "tongue", "slope", "last", "side", "which", "other", "words", "same");
    private static final String FIVE = "speaker a 1;speaker b 1;speaker c 1;speaker d 1;speaker e 1;";
    private static final String SIX = "word n 1;word o 1;word p 1;word q 1;word r 1;word s 1;";

    private static void due(String what, int got, int want) {
        Due.due(what, got, want);
    }

    private static void due(String what, boolean got, boolean want) {
        Due.due(what, got, want);
    }

    private static void fault(String text, int number, int place) {
        Due.fault(text, number, place);
    }

    private static void right(String text) {
        Due.fault(text, 0, -1);
    }

    private static String times(int n, String s) {
        return s.repeat(n);
    }

    private static CradlePairs full(String text) {
        CradlePairs x = new CradlePairs();
        Due.tape(x, text + times(2000 - text.length(), " "));
        return x;
    }

    // ---- promise 1

    /** "No SPEAKERS, no WORDS, nobody by the crib." */
    static void p01_nothingIsThere() {
        CradlePairs x = new CradlePairs();
        int[] counts = {0, 0, 10, 0, -2, -2, -2, 0, 0, 0, 0, 0, 0, 0};
        for (int what = 0; what < counts.length; what++) {
            due("count " + what, x.count(what), counts[what]);
        }
        for (int what = 0; what < 4; what++) {
            due("speaker 0", x.speaker(0, what), -1);
            due("word 0", x.word(0, what), -1);
        }
        due("place", x.place(), -1);
        due("say", x.say(0), -1);
        due("pass", x.pass(), -1);
        due("hire", x.hire(0, 1), -1);
        due("set", x.set(), false);
        due("undo", x.undo(), false);
        due("restore", x.restore(0), false);
        due("forget", x.forget(), 0);
        due("back", x.back(1), -1);
    }

    /** "No SPEAKERS, no WORDS, nobody by the crib.": what would be, of nobody. */
    static void p01_nothingWouldBe() {
        CradlePairs x = new CradlePairs();
        due("who", x.who(), 0);
        due("soon", x.soon(), -2);
        due("best", x.best(), -2);
        due("together", x.together(), 0);
        due("even now", x.even(0), 0);
        due("even", x.even(1), -2);
        due("ways of none", x.ways(0), 1);
        due("ways", x.ways(1), 0);
        due("waking", x.waking(7), 0);
        due("ring", x.ring(), -2);
        due("reach", x.reach(), 1);
        due("slopes", x.slopes(), 1 << 10);
        due("hangs", x.hangs(), 0);
        due("scale", x.scale(0), -1);
        due("calm", x.calm(0, 1), -1);
        due("couples", x.couples(-1), 0);
        due("with whom", x.couples(0), -1);
        due("cheapest", x.cheapest(0), -2);
        due("how much", x.cheapest(1), -2);
        due("slope in 200", x.slopeIn(200), 10);
        due("year", x.year(200, 20), 0);
        due("rows", x.rows(0, 1, 0), 0);
        due("first row", x.rows(0, 1, 1), -2);
        due("listen", x.listen(0, 1, 0), -2);
    }

    /** A new object is as one that has read a text in which nothing is told. */
    static void p01_asBehindAnEmptyText() {
        CradlePairs read = Seen.busy();
        read.back(read.count(8));
        due("read", read.read(), 0);
        Due.due("alike", Seen.whole(read), Seen.whole(new CradlePairs()));
    }

    /** No object has anything of another one. */
    static void p01_nothingOfAnotherObject() {
        CradlePairs x = Seen.busy();
        String ahead = Seen.of(x);
        CradlePairs other = Seen.busy();
        other.hire(0, 1);
        other.minutes(9);
        other.forget();
        other.hold(1);
        other.read();
        Due.due("as ahead", Seen.of(x), ahead);
        Due.due("a new one", Seen.whole(new CradlePairs()), Seen.whole(new CradlePairs()));
    }

    /** "An object is used for at most 512 calls after it has been made": all of these are answered. */
    static void p01_fiveHundredAndTwelveCalls() {
        CradlePairs x = new CradlePairs();
        for (int i = 1; i < 512; i++) {
            due("minutes", x.minutes(200), 200 * i);
        }
        due("the 512th", x.count(7), 102200);
        CradlePairs y = Due.told("speaker a 1;speaker b 1;wages=99;");
        for (int i = 0; i < 505; i++) {
            due("hire", y.hire(i % 2, 1 - i % 2), 198);
        }
        due("paid", y.count(12), 505 * 198);
        due("hired", y.speaker(1, 2), 505);
    }

    // ---- promise 2

    /** "Twenty bytes, the highest of a first, come behind the tape" */
    static void p02_highestOfTheFirstFirst() {
        for (int at = 0; at < 20; at++) {
            int[] v = {0x20202020, 0x20202020, 0x20202020, 0x20202020, 0x20202020};
            v[at / 4] ^= 0x03 << 24 - 8 * (at % 4);
            CradlePairs x = new CradlePairs();
            due("feed", x.feed(v[0], v[1], v[2], v[3], v[4]), 20);
            due("a sign at " + at, x.read(), 1);
            due("its place", x.place(), at);
        }
        CradlePairs x = new CradlePairs();
        // "tilt" " 7;s" "eed " "1234" ";til", then "t 8;"
        x.feed(0x74696c74, 0x20373b73, 0x65656420, 0x31323334, 0x3b74696c);
        x.feed(0x7420383b, 0x20202020, 0x20202020, 0x20202020, 0x20202020);
        due("over two feeds", x.read(), 0);
        due("tilt", x.count(2), 8);
    }

    /** "Twenty bytes": each of the 256 that a byte can be, in an int of either sign. */
    static void p02_bytesAboveAllSigns() {
        int[] highest = {0x80202020, 0x20802020, 0x20208020, 0x20202080, 0xff202020, 0x202020ff, MIN, -1};
        int[] places = {0, 1, 2, 3, 0, 3, 0, 0};
        for (int i = 0; i < highest.length; i++) {
            CradlePairs x = new CradlePairs();
            x.feed(highest[i], 0x20202020, 0x20202020, 0x20202020, 0x20202020);
            due("no token", x.read(), 1);
            due("its place", x.place(), places[i]);
        }
    }

    /** "how many it has": from none to a full tape. */
    static void p02_howManyItHas() {
        CradlePairs x = new CradlePairs();
        due("none", x.count(8), 0);
        for (int i = 1; i <= 100; i++) {
            due("feed", x.feed(0, MIN, -1, MAX, 1), 20 * i);
            due("bytes", x.count(8), 20 * i);
        }
    }

    /** "NONE, and nothing comes, if it would have more than 2,000.": a full tape. */
    static void p02_fullTape() {
        CradlePairs x = full("tilt 7;");
        due("full", x.count(8), 2000);
        due("one more", x.feed(-1, -1, -1, -1, -1), -1);
        due("and again", x.feed(0x20202020, 0, 0, 0, 0), -1);
        due("as many", x.count(8), 2000);
        due("read", x.read(), 0);
        due("tilt", x.count(2), 7);
        due("room again", x.feed(0, 0, 0, 0, 0), 20);
    }

    /** "if it would have more than 2,000": 1,980 are few enough, 1,981 and 1,999 are not. */
    static void p02_nearlyFullTape() {
        for (int bytes = 1979; bytes <= 2000; bytes++) {
            CradlePairs x = full("tilt 7;");
            x.back(2000 - bytes);
            boolean fits = bytes <= 1980;
            due("feed behind " + bytes, x.feed(-1, -1, -1, -1, -1), fits ? bytes + 20 : -1);
            due("bytes behind " + bytes, x.count(8), fits ? bytes + 20 : bytes);
            due("read " + bytes, x.read(), fits ? 1 : 0);
            due("place " + bytes, x.place(), fits ? bytes : -1);
        }
    }

    /** "A TEXT has 2,000 bytes at most.": one of so many is read to its last byte. */
    static void p02_textOfTwoThousandBytes() {
        fault(times(1993, " ") + "tilt 3;", 0, -1);
        fault(times(1999, " ") + "#", 1, 1999);
        fault(times(1999, "\n") + ";", 1, 1999);
        fault(times(1996, " ") + "tilt", 1, 2000);
        fault(times(2000, " "), 0, -1);
        fault(times(2000, "a"), 1, 0);
        fault(times(2000, "7"), 1, 0);
    }

    // ---- promise 3

    /** "The last n bytes of the tape go: how many it has." */
    static void p03_theLastOnesGo() {
        CradlePairs x = new CradlePairs();
        Due.tape(x, "tilt 7;tilt 8;tilt 9");
        due("six", x.back(6), 14);
        due("seven more", x.back(7), 7);
        due("bytes", x.count(8), 7);
        due("read", x.read(), 0);
        due("tilt", x.count(2), 7);
    }

    /** "The last n bytes": none, all. */
    static void p03_noneAndAll() {
        CradlePairs x = new CradlePairs();
        due("none of nothing", x.back(0), 0);
        x.feed(-1, -1, -1, -1, -1);
        due("none", x.back(0), 20);
        due("all but one", x.back(19), 1);
        due("the last one", x.back(1), 0);
        x.feed(-1, -1, -1, -1, -1);
        due("all", x.back(20), 0);
        due("nothing is read", x.read(), 0);
        due("all of a full tape", full("#").back(2000), 0);
    }

    /** "NONE, and nothing goes, if it has not so many" */
    static void p03_notSoMany() {
        due("of nothing", new CradlePairs().back(1), -1);
        for (int n : new int[] {15, 16, 2000, 2001, MAX}) {
            CradlePairs x = new CradlePairs();
            Due.tape(x, "tilt 7;tilt 8;");
            due("back " + n, x.back(n), -1);
            due("bytes", x.count(8), 14);
            due("read", x.read(), 0);
            due("tilt", x.count(2), 8);
        }
        due("one more than full", full("").back(2001), -1);
    }

    /** "NONE, and nothing goes, if .. n is below 0." */
    static void p03_belowNone() {
        for (int n : new int[] {-1, -14, -2000, MIN, MIN + 1}) {
            CradlePairs x = new CradlePairs();
            Due.tape(x, "tilt 7;tilt 8;");
            due("back " + n, x.back(n), -1);
            due("bytes", x.count(8), 14);
            due("read", x.read(), 0);
        }
        due("of nothing", new CradlePairs().back(-1), -1);
    }

    /** What has gone is no part of what comes: the next bytes come right behind the others. */
    static void p03_nextOnesBehind() {
        CradlePairs x = new CradlePairs();
        Due.tape(x, "tilt 19");
        x.back(1);
        Due.tape(x, "5;");
        due("read", x.read(), 0);
        due("tilt", x.count(2), 15);
        Due.tape(x, "tilt 12345");
        x.back(1);
        due("no fifth digit", x.read(), 1);
        due("the end", x.place(), 9);
        Due.tape(x, "speaker abcdefghi");
        x.back(1);
        due("no ninth letter", x.read(), 1);
        due("the end", x.place(), 16);
    }

    // ---- promise 4: the tape

    /** "The tape, which is empty then, is read" */
    static void p04_theTapeIsEmptyThen() {
        CradlePairs x = new CradlePairs();
        due("nothing", x.read(), 0);
        due("bytes", x.count(8), 0);
        Due.tape(x, "tilt 7;");
        due("a right text", x.read(), 0);
        due("bytes", x.count(8), 0);
        due("back", x.back(1), -1);
        Due.tape(x, "#");
        due("a fault", x.read(), 1);
        due("bytes", x.count(8), 0);
        due("from none on", x.feed(0x20202020, 0x20202020, 0x20202020, 0x20202020, 0x20202020), 20);
        due("blanks alone", x.read(), 0);
        due("the tilt not told", x.count(2), 10);
    }

    /** "0, or the number of its FAULT." */
    static void p04_eachNumber() {
        right("tilt 7;");
        fault("tilt", 1, 4);
        fault("bars=(((((((1)))))));", 2, 11);
        fault("word a 1;word a 1;", 3, 14);
        fault("pair a b;", 4, 5);
        fault("tilt 20;", 5, 5);
    }

    // ---- promise 4: TOKENS

    /** "with blanks (9, 10, 13, 32) between or not", "all else, is no TOKEN": each byte between two TOKENS. */
    static void p04_bytesBetween() {
        for (int b = 0; b < 256; b++) {
            String text = "tilt" + (char) b + "7;";
            if (b == 9 || b == 10 || b == 13 || b == 32 || b == '0' || b == '1') {
                right(text);
            } else if (b >= '2' && b <= '9') {
                fault(text, 5, 4);
            } else {
                fault(text, 1, b >= 'a' && b <= 'z' ? 0 : 4);
            }
        }
    }

    /** "blanks (9, 10, 13, 32)", "all else, is no TOKEN": each byte alone; no other one is a text. */
    static void p04_bytesAlone() {
        for (int b = 0; b < 256; b++) {
            boolean blank = b == 9 || b == 10 || b == 13 || b == 32;
            fault("" + (char) b, blank ? 0 : 1, blank ? -1 : 0);
            fault(" " + (char) b + " ", blank ? 0 : 1, blank ? -1 : 1);
        }
    }

    /** "NAMES (letters a .. z": each byte within a name. */
    static void p04_bytesInNames() {
        for (int b = 0; b < 256; b++) {
            String text = "speaker a" + (char) b + "c 1;";
            boolean blank = b == 9 || b == 10 || b == 13 || b == 32;
            if (b >= 'a' && b <= 'z') {
                right(text);
            } else {
                fault(text, 1, blank || b >= '0' && b <= '9' ? 10 : 9);
            }
        }
    }

    /** "INTS (1 to 4 digits)": each byte within a number. */
    static void p04_bytesInNumbers() {
        for (int b = 0; b < 256; b++) {
            String text = "seed 4" + (char) b + "2;";
            boolean blank = b == 9 || b == 10 || b == 13 || b == 32;
            if (b >= '0' && b <= '9') {
                right(text);
            } else {
                fault(text, 1, blank || b == ';' ? 7 : 6);
            }
        }
    }

    /** "TOKENS, .. with blanks .. between or not" */
    static void p04_blanksOrNot() {
        right("speaker a1;speaker b2;word n3;pair a b;tilt4;seed5;pushes=if(1)<2then(3)else(4);");
        right("\t\n\r speaker\ta\n1\r;\r\n ");
        right(" speaker \n a \n 1 \n ; \n pushes \n = \n 1 \n + \n 2 \n ; \n ");
        fault("spea ker a 1;", 1, 0);
        fault("speakera 1;", 1, 0);
        fault("speaker a 1;pairab;", 1, 12);
        fault("tilt 1 2;", 1, 7);
        fault("bars=if1<2then 3 else 4;", 0, -1);
        fault("bars=if 1<2 then3else 4;", 0, -1);
        fault("bars=if 1<side then 3 elseside;", 1, 22);
    }

    /** "TOKENS, the longest that can be" */
    static void p04_theLongest() {
        fault("words n 1;", 1, 0);
        right("word wordsx 1;");
        right("speaker ifa 1;speaker thenelse 2;");
        fault("bars=wordss;", 1, 5);
        fault("bars=sides+1;", 1, 5);
        fault("bars=side side;", 1, 10);
        fault("tilts 5;", 1, 0);
        fault("bars=11111;", 1, 5);
        fault("bars=1111 1;", 1, 10);
    }

    /** "NAMES (.., 8 at most", "A longer one .. is no TOKEN." */
    static void p04_namesOfEightAndNine() {
        right("speaker a 1;");
        right("speaker z 1;");
        right("speaker abcdefgh 1;word zyxwvuts 1;");
        fault("speaker abcdefghi 1;", 1, 8);
        fault("word abcdefghi 1;", 1, 5);
        fault("speaker a 1;pair a abcdefghi;", 1, 19);
        fault("speaker " + times(500, "z") + " 1;", 1, 8);
        fault("speakerspeaker a 1;", 1, 0);
        fault("speaker abcdefghspeaker", 1, 8);
    }

    /** "NAMES (.., none of the words in quotes)" */
    static void p04_wordsInQuotes() {
        for (String quoted : QUOTED) {
            fault("speaker " + quoted + " 1;", 1, 8);
            fault("word " + quoted + " 1;", 1, 5);
            fault("speaker a 1;pair " + quoted + " a;", 1, 17);
            fault("speaker a 1;pair a " + quoted + ";", 1, 19);
            right("speaker " + quoted + "x 1;");
            right("word " + "x" + quoted + " 1;");
            right("speaker " + quoted.substring(1) + " 1;");
        }
    }

    /** "INTS (1 to 4 digits)", "A longer one .. is no TOKEN." */
    static void p04_numbersOfFourAndFive() {
        right("tilt 7;");
        right("tilt 0007;");
        fault("tilt 00007;", 1, 5);
        right("seed 0000;");
        fault("seed 00000;", 1, 5);
        right("seed 9999;");
        fault("seed 10000;", 1, 5);
        right("bars=9999;");
        fault("bars=10000;", 1, 5);
        fault("speaker a 00001;", 1, 10);
        fault("seed " + times(500, "1") + ";", 1, 5);
    }

    /** "SIGNS ; = + - * / < ( )": each is one by itself, no other one is. */
    static void p04_signs() {
        right("bars=(1+2-3)*4/5;rests=if 1<2 then 3 else 4;");
        for (String sign : List.of("<=", ">", "%", "[1]", "{1}", ",", ":", "!", "^", "&", "'", "\"", "_", "~", "@", "`")) {
            fault("bars=1" + sign + "2;", 1, 6);
        }
        fault("bars==1;", 1, 5);
        fault("bars=1++2;", 1, 7);
        fault("bars=1**2;", 1, 7);
        fault("bars=1//2;", 1, 7);
        fault("bars=1--2;", 1, 7);
        fault("bars=if 1<<2 then 1 else 2;", 1, 10);
        fault("tilt 7.", 1, 6);
        fault("tilt 7;.", 1, 7);
    }

    // ---- promise 4: the grammar

    private static final String ALL = "speaker a 1 ; speaker b 0009 ; word n 0 ; pair b a ; tilt 19 ; seed 0 ; pushes = force ; "
        + "wages = ( tongue - 1 ) * 2 ; rests = if slope < last then side + which else if other < words then same / 3 else 4 ; "
        + "bars = ( ( 1 ) ) ;";

    /** "1 SYNTAX: a TOKEN, or what is none, with which no text goes on.": where a text may end, and where it may not. */
    static void p04_brokenOff() {
        String[] tokens = ALL.split(" ");
        StringBuilder b = new StringBuilder();
        for (int i = 0; i <= tokens.length; i++) {
            boolean whole = i == 0 || tokens[i - 1].equals(";");
            String text = b.toString();
            fault(text, whole ? 0 : 1, whole ? -1 : text.length());
            fault(text + " \n", whole ? 0 : 1, whole ? -1 : text.length() + 2);
            fault(text + " # tilt 99;", 1, text.length() + 1);
            if (i < tokens.length) {
                b.append(i == 0 ? "" : " ").append(tokens[i]);
            }
        }
    }

    /** "1 SYNTAX: .. what is none": it is none of the next text, wherever it was in this one. */
    static void p04_brokenOffThenWhole() {
        String[] tokens = ALL.split(" ");
        StringBuilder b = new StringBuilder();
        for (String token : tokens) {
            CradlePairs x = new CradlePairs();
            Due.tape(x, b + "#");
            due("broken off", x.read(), 1);
            due("its place", x.place(), b.length());
            Due.tape(x, ALL);
            due("whole", x.read(), 0);
            due("tilt", x.count(2), 19);
            b.append(token).append(' ');
        }
    }

    /** "1 SYNTAX: a TOKEN .. with which no text goes on.": each TOKEN left out. */
    static void p04_leftOut() {
        fault("a 1;", 1, 0);
        fault("speaker 1;", 1, 8);
        fault("speaker a;", 1, 9);
        fault("speaker a 1 speaker b 1;", 1, 12);
        fault("word 1;", 1, 5);
        fault("word x;", 1, 6);
        fault("word x 1 word y 1;", 1, 9);
        fault("pair;", 1, 4);
        fault("pair a;", 1, 6);
        fault("pair a b pair a b;", 1, 9);
        for (String law : List.of("pushes", "wages", "rests", "bars")) {
            int n = law.length();
            fault(law + " 1;", 1, n + 1);
            fault(law + "=;", 1, n + 1);
            fault(law + "=1 tilt 5;", 1, n + 3);
            fault("=1;", 1, 0);
        }
        fault("tilt;", 1, 4);
        fault("tilt 5 seed 5;", 1, 7);
        fault("seed;", 1, 4);
        fault("seed 5 tilt 5;", 1, 7);
        fault("5;", 1, 0);
    }

    /** "1 SYNTAX: a TOKEN .. with which no text goes on.": one too many, or another one. */
    static void p04_otherTokens() {
        fault(";", 1, 0);
        fault("tilt 5;;", 1, 7);
        fault("speaker a 1 2;", 1, 12);
        fault("speaker a b 1;", 1, 10);
        fault("speaker a -1;", 1, 10);
        fault("word x 1 2;", 1, 9);
        fault("pair a b c;", 1, 9);
        fault("pair a 1;", 1, 7);
        fault("pair 1 a;", 1, 5);
        fault("tilt=5;", 1, 4);
        fault("tilt five;", 1, 5);
        fault("tilt 5+5;", 1, 6);
        fault("seed -1;", 1, 5);
        for (String quoted : QUOTED.subList(9, 21)) {
            fault(quoted + " 1;", 1, 0);
        }
    }

    /** "LAW: '=' {'if' E '<' E 'then' E 'else'} E." */
    static void p04_ifs() {
        right("bars=1;");
        right("bars=if 1<2 then 3 else 4;");
        right("bars=if 1+1<2*2 then 3-3 else if(1)<(2)then 3 else 4/4;");
        fault("bars=if 1<2 then 3 else;", 1, 23);
        fault("bars=if 1 2 then 3 else 4;", 1, 10);
        fault("bars=if 1<2 3 else 4;", 1, 12);
        fault("bars=if 1<2 then 3;", 1, 18);
        fault("bars=if 1<2 then else 4;", 1, 17);
        fault("bars=if<2 then 3 else 4;", 1, 7);
        fault("bars=if 1<then 3 else 4;", 1, 10);
        fault("bars=if 1=2 then 3 else 4;", 1, 9);
        fault("bars=if 1<2<3 then 3 else 4;", 1, 11);
        fault("bars=if(1<2)then 3 else 4;", 1, 9);
        fault("bars=1 if 1<2 then 3 else 4;", 1, 7);
        fault("bars=(if 1<2 then 3 else 4);", 1, 6);
        fault("bars=if 1<2 then if 1<2 then 3 else 4 else 5;", 1, 17);
        fault("bars=if if 1<2 then 3 else 4;", 1, 8);
        fault("bars=1<2;", 1, 6);
        fault("bars=else 1;", 1, 5);
        fault("bars=then;", 1, 5);
    }

    /** "E: PART {('+' | '-') PART}. PART: UNIT {('*' | '/') UNIT}. UNIT: INT | VAR | '(' E ')'." */
    static void p04_parts() {
        for (String var : QUOTED.subList(12, 21)) {
            right("bars=" + var + ";");
        }
        for (String other : QUOTED.subList(0, 12)) {
            fault("bars=1+" + other + ";", 1, 7);
        }
        fault("bars=name;", 1, 5);
        for (String sign : List.of("+", "-", "*", "/")) {
            right("bars=1" + sign + "2;");
            fault("bars=" + sign + "2;", 1, 5);
            fault("bars=1" + sign + ";", 1, 7);
            fault("bars=(1" + sign + ");", 1, 8);
            fault("bars=(" + sign + "1);", 1, 6);
        }
        fault("bars=();", 1, 6);
        fault("bars=(1;", 1, 7);
        fault("bars=((1);", 1, 9);
        fault("bars=1);", 1, 6);
        fault("bars=(1));", 1, 8);
        fault("bars=1(2);", 1, 6);
        fault("bars=(1)2;", 1, 8);
        fault("bars=1 side;", 1, 7);
        fault("bars=side 1;", 1, 10);
    }

    // ---- promise 4: ROOM

    /** "2 ROOM: .. one more of a sort than told (at its first TOKEN)": "SPEAKERS, 5 at most" */
    static void p04_sixthSpeaker() {
        right(FIVE);
        right(FIVE + SIX);
        fault(FIVE + "speaker f 1;", 2, FIVE.length());
        fault(FIVE + SIX + " \n speaker f 1;", 2, FIVE.length() + SIX.length() + 3);
        fault(FIVE + "speaker", 2, FIVE.length());
        fault(FIVE + "speaker #", 2, FIVE.length());
        fault(FIVE + "speaker a 99;", 2, FIVE.length());
        fault(times(6, "speaker a 1;"), 2, 60);
        fault(FIVE + "#speaker f 1;", 1, FIVE.length());
    }

    /** "2 ROOM: .. one more of a sort than told (at its first TOKEN)": "WORDS, 6 at most" */
    static void p04_seventhWord() {
        right(SIX);
        right(SIX + FIVE);
        fault(SIX + "word t 1;", 2, SIX.length());
        fault(SIX + FIVE + "\tword t 1;", 2, SIX.length() + FIVE.length() + 1);
        fault(SIX + "word", 2, SIX.length());
        fault(SIX + "word 1 1;", 2, SIX.length());
        fault(times(7, "word a 1;"), 2, 54);
    }

    /** "one more of a sort than told": of all else a text may tell as many as it likes. */
    static void p04_noOtherSort() {
        right("speaker a 1;speaker b 1;" + times(30, "pair a b;") + times(30, "tilt 5;") + times(30, "seed 5;"));
        right(times(20, "pushes=1;") + times(20, "wages=1;") + times(20, "rests=1;") + times(20, "bars=1;"));
    }

    /** "2 ROOM: .. a 5th if of a LAW (at it)" */
    static void p04_fifthIf() {
        String one = "if 1<2 then 3 else ";
        for (String law : List.of("pushes", "wages", "rests", "bars")) {
            String four = law + "=" + times(4, one);
            right(four + "4;");
            right(four + "4;" + four + "4;");
            fault(four + one + "4;", 2, four.length());
            fault(four + "\n" + one + "4;", 2, four.length() + 1);
            fault(four + "if", 2, four.length());
            fault(four + "if #", 2, four.length());
            fault("tilt 99;" + four + one + one + "4;", 2, four.length() + 8);
        }
        fault("bars=" + times(4, one) + "4;rests=" + times(5, one) + "4;", 2, 5 + 4 * 19 + 2 + 6 + 4 * 19);
    }

    /** "2 ROOM: .. a 7th ( within one another (at it)" */
    static void p04_seventhBracket() {
        right("bars=((((((1))))));");
        fault("bars=(((((((1)))))));", 2, 11);
        fault("bars=((((((((1))))))));", 2, 11);
        fault("bars=(((((((", 2, 11);
        fault("bars=(((((( (1)))))));", 2, 12);
        right("bars=((((((1))))))*((((((1))))))-((((((1))))));");
        right("bars=((((((1)*(2))*(3))*(4))*(5))*(6));");
        right("bars=(1)+(2)+(3)+(4)+(5)+(6)+(7)+(8)+((9)+(8));");
        right("bars=1+(2*(3-(4/(5+(6*(7)+(8))))));");
        fault("bars=1+(2*(3-(4/(5+(6*(7+(8)))))));", 2, 25);
        right("bars=if((((((1))))))<((((((1))))))then((((((1))))))else((((((1))))));");
        fault("bars=if(((((((1)))))))<1 then 1 else 1;", 2, 13);
        fault("bars=if 1<(((((((1)))))))then 1 else 1;", 2, 16);
        fault("bars=if 1<2 then(((((((1)))))))else 1;", 2, 22);
        fault("bars=if 1<2 then 3 else(((((((1)))))));", 2, 29);
        right("bars=((((((1))))));rests=((((((1))))));");
    }

    /** "2 ROOM: a 401st TOKEN" */
    static void p04_token401() {
        String tokens399 = times(133, "seed 1;");
        String tokens400 = times(132, "seed 1;") + "bars=1;";
        right(tokens399);
        right(tokens400);
        right(tokens400 + " \n\t\r");
        fault(tokens400 + " seed 1;", 2, tokens400.length() + 1);
        fault(tokens400 + "seed", 2, tokens400.length());
        fault(tokens400 + "seed #", 2, tokens400.length());
        fault(tokens399 + "seed 1;", 2, tokens399.length() + 5);
        fault(tokens399 + "seed", 1, tokens399.length() + 4);
        right("bars=" + times(198, "1+") + "1;");
        fault("bars=" + times(198, "1+") + "1 ;tilt 5;", 2, 404);
        fault("bars=" + times(198, "1+") + "(1);", 2, 403);
        fault("bars=" + times(199, "1+") + "1;", 2, 403);
        fault(times(500, "tilt 1;").substring(0, 2000), 2, 936);
    }

    /** "FAULTS .., of one place the least": a 401st TOKEN with which no text goes on. */
    static void p04_ofOnePlaceTheLeast() {
        String tokens400 = times(132, "seed 1;") + "bars=1;";
        for (String wrong : List.of(";", "1", "a", "if", "then", "side", "=", "<", "(", ".", "#", "abcdefghi", "12345")) {
            fault(tokens400 + wrong, 1, tokens400.length());
        }
        fault(times(133, "seed 1;") + "seed seed", 1, 936);
        fault(times(133, "seed 1;") + "seed 12345;", 1, 936);
        fault(times(133, "seed 1;") + "tilt", 1, 935);
    }

    /** "FAULTS of a text, the first by its place": SYNTAX and ROOM. */
    static void p04_theFirstByPlace() {
        fault("# $", 1, 0);
        fault("bars=(((((((#", 2, 11);
        fault("bars=((((((#(", 1, 11);
        fault(FIVE + "speaker f 1;#", 2, FIVE.length());
        fault(FIVE + "#speaker f 1;", 1, FIVE.length());
        fault(FIVE + SIX + "word t 1;speaker f 1;", 2, FIVE.length() + SIX.length());
        fault("bars=(((((((1)))))));" + times(6, "speaker a 1;"), 2, 11);
        fault(times(6, "speaker a 1;") + "bars=(((((((1)))))));", 2, 60);
    }

    /** "(a byte; the text's end: its length)" */
    static void p04_theTextsEnd() {
        fault("speaker", 1, 7);
        fault("speaker ", 1, 8);
        fault(" speaker\n\n", 1, 10);
        fault("bars=1", 1, 6);
        fault("tilt 99", 1, 7);
        fault("speaker a 1;pair a a", 1, 20);
    }

    // ---- promise 4: TWICE, NAME, WRONG

    /** "If there is none, likewise: 3 TWICE": only without SYNTAX and ROOM, wherever these are. */
    static void p04_onlyIfThereIsNone() {
        fault("tilt 0;#", 1, 7);
        fault("pair a b;tilt", 1, 13);
        fault("speaker a 1;speaker a 1;;", 1, 24);
        fault("tilt 0;" + times(6, "speaker a 1;"), 2, 67);
        fault("pair a b;" + times(7, "word n 1;"), 2, 63);
        fault("tilt 0;bars=(((((((1)))))));", 2, 18);
        fault("tilt 0;" + times(133, "seed 1;"), 2, 936);
    }

    /** "If there is none, likewise": of TWICE, NAME and WRONG the first by its place. */
    static void p04_likewiseTheFirst() {
        fault("speaker a 10;speaker a 1;", 5, 10);
        fault("speaker a 1;speaker a 10;", 3, 20);
        fault("pair a b;tilt 0;", 4, 5);
        fault("tilt 0;pair a b;", 5, 5);
        fault("speaker a 1;speaker a 1;pair b a;", 3, 20);
        fault("speaker a 1;pair b a;speaker a 1;", 4, 17);
        fault("speaker a 1;pair a a;tilt 20;", 3, 19);
        fault("tilt 20;tilt 0;", 5, 5);
        fault("word a 10;word a 10;word a 10;", 5, 7);
    }

    /** "3 TWICE: a NAME told already (of SPEAKERS and WORDS together)" */
    static void p04_toldAlready() {
        fault("speaker a 1;speaker a 2;", 3, 20);
        fault("word a 1;word a 2;", 3, 14);
        fault("speaker a 1;word a 2;", 3, 17);
        fault("word a 1;speaker a 2;", 3, 17);
        fault(FIVE + SIX.replace("word s", "word a"), 3, 60 + 50);
        fault(SIX + FIVE.replace("speaker e", "speaker s"), 3, 54 + 56);
        fault("speaker a 1;speaker b 1;\n\nspeaker   a 1;", 3, 36);
        fault("speaker abcdefgh 1;word abcdefgh 1;", 3, 24);
        right("speaker abcdefgh 1;word abcdefgi 1;speaker abcdefg 1;word bcdefgh 1;speaker zbcdefgh 1;");
        right("speaker a 1;speaker aa 1;speaker aaa 1;word aaaa 1;word b 1;word ab 1;word ba 1;");
        right("speaker a 1;speaker b 1;pair a b;pair b a;pair a b;");
    }

    /** "3 TWICE: .. (at the second NAME) a PAIR of one." */
    static void p04_pairOfOne() {
        fault("speaker a 1;pair a a;", 3, 19);
        fault("speaker a 1;speaker b 1;pair b  b;", 3, 32);
        fault("speaker a 1;speaker b 1;pair a a;pair a b;", 3, 31);
        fault("speaker a 1;speaker b 1;pair a b;pair b b;", 3, 40);
    }

    /** "4 NAME: (at it) no such SPEAKER told ahead" */
    static void p04_noSuchSpeaker() {
        fault("speaker a 1;pair a b;", 4, 19);
        fault("speaker a 1;pair b a;", 4, 17);
        fault("speaker a 1;pair b c;", 4, 17);
        fault("speaker a 1;pair b b;", 4, 17);
        fault("speaker a 1;pair  b   a;", 4, 18);
        fault("pair a b;speaker a 1;speaker b 1;", 4, 5);
        fault("speaker a 1;pair a b;speaker b 1;", 4, 19);
        fault("word a 1;speaker b 1;pair a b;", 4, 26);
        fault("word a 1;speaker b 1;pair b a;", 4, 28);
        fault("speaker a 1;speaker b 1;pair a c;pair a b;", 4, 31);
        fault("speaker ab 1;speaker b 1;pair a b;", 4, 30);
        fault("speaker abcdefgh 1;speaker b 1;pair abcdefg b;", 4, 36);
    }

    /** "4 NAME: .. (a NAME told more than once is that of the first one of the sort)": TWICE comes first. */
    static void p04_toldMoreThanOnce() {
        fault("speaker a 1;speaker a 2;pair a a;", 3, 20);
        fault("word a 1;speaker a 2;speaker b 1;pair a b;", 3, 17);
    }

    /** "5 WRONG (at the INT): a number not as told above.": "TONGUE 0 .. 9" */
    static void p04_wrongTongue() {
        for (int tongue = 0; tongue <= 9; tongue++) {
            due("tongue", Due.told("speaker a " + tongue + ";").speaker(0, 0), tongue);
        }
        due("with zeros", Due.told("speaker a 0009;").speaker(0, 0), 9);
        fault("speaker a 10;", 5, 10);
        fault("speaker a 0010;", 5, 10);
        fault("speaker a 9999;", 5, 10);
        fault("speaker a   10;", 5, 12);
        fault(FIVE.replace("e 1", "e 10"), 5, 58);
    }

    /** "5 WRONG (at the INT): a number not as told above.": "FORCE 0 .. 9" */
    static void p04_wrongForce() {
        for (int force = 0; force <= 9; force++) {
            due("force", Due.told("word n " + force + ";").word(0, 0), force);
        }
        fault("word n 10;", 5, 7);
        fault("word n 9999;", 5, 7);
        fault(SIX.replace("s 1", "s 10"), 5, 52);
    }

    /** "5 WRONG (at the INT): a number not as told above.": "TILT 1 .. 19" */
    static void p04_wrongTilt() {
        for (int tilt = 1; tilt <= 19; tilt++) {
            due("tilt", Due.told("tilt " + tilt + ";").count(2), tilt);
        }
        fault("tilt 0;", 5, 5);
        fault("tilt 0000;", 5, 5);
        fault("tilt 20;", 5, 5);
        fault("tilt 21;", 5, 5);
        fault("tilt 9999;", 5, 5);
        fault("tilt 0;tilt 5;", 5, 5);
        fault("tilt 5;tilt 0;", 5, 12);
    }

    /** "SEED 0 .. 9999": no INT is beyond. */
    static void p04_noWrongSeed() {
        right("seed 0;");
        right("seed 9999;");
        right("seed 0000;seed 0001;");
    }

    /** A LAW's numbers are any INTS. */
    static void p04_noWrongNumberInALaw() {
        right("pushes=0;wages=9999;rests=if 9999<0 then 9999 else 0;bars=9999*9999;");
    }

    // ---- promise 4: what a text tells

    /** "SPEAKERS .. WORDS .. numbered each from 0 on as they stand" */
    static void p04_numberedAsTheyStand() {
        CradlePairs x = Due.told("word z 6;speaker za 5;word y 7;speaker b 4;speaker aa 3;word c 8;");
        int[] tongues = {5, 4, 3, -1, -1};
        int[] forces = {6, 7, 8, -1, -1, -1};
        for (int i = 0; i < 5; i++) {
            due("tongue " + i, x.speaker(i, 0), tongues[i]);
        }
        for (int i = 0; i < 6; i++) {
            due("force " + i, x.word(i, 0), forces[i]);
        }
        due("speakers", x.count(0), 3);
        due("words", x.count(1), 3);
    }

    /** "PAIR: who is LEFT, who is RIGHT (..; the last one; none told: nobody)" */
    static void p04_theLastPairOrNobody() {
        CradlePairs none = Due.told(FIVE + SIX);
        due("nobody is LEFT", none.count(5), -2);
        due("nobody is RIGHT", none.count(6), -2);
        CradlePairs x = Due.told(FIVE + "pair a b;pair c d;pair e b;");
        due("LEFT", x.count(5), 4);
        due("RIGHT", x.count(6), 1);
        CradlePairs y = Due.told("speaker a 1;speaker b 1;pair b a;speaker c 1;");
        due("LEFT told ahead", y.count(5), 1);
        due("RIGHT told ahead", y.count(6), 0);
    }

    /** "LAWS: PUSHES (force), WAGES (tongue), RESTS (0), BARS (0), if not told" */
    static void p04_lawsNotTold() {
        CradlePairs x = Due.told("speaker a 3;speaker b 9;word n 0;word o 9;tilt 15;");
        due("wages", x.hire(0, 1), 12);
        due("pushes of none", x.word(0, 2), 0);
        due("pushes of nine", x.word(1, 2), 9);
        due("bars", x.word(0, 3) + x.word(1, 3), 0);
        CradlePairs silent = Due.told("speaker a 3;speaker b 9;pair a b;tilt 15;");
        due("rests", silent.pass(), 15);
    }

    /** "LAWS: ..; the last one." */
    static void p04_theLastLaw() {
        CradlePairs x = Due.told("speaker a 3;speaker b 9;word n 4;pushes=1;wages=2;rests=3;bars=4;tilt 15;"
            + "bars=side;rests=2;wages=50;pushes=if side<1 then 1 else 1;");
        due("wages", x.hire(0, 1), 100);
        due("pushes and bars", x.say(0), 16);
        due("barred", x.word(0, 3), 1);
        due("rests", x.pass(), 14);
    }

    /** "TILT 1 .. 19: how the cradle is set (10; the last one)" */
    static void p04_theLastTilt() {
        due("not told", Due.told("seed 5;").count(2), 10);
        due("the last", Due.told("tilt 3;tilt 19;tilt 1;").count(2), 1);
        CradlePairs x = Due.told("tilt 3;");
        x.read();
        due("not told any more", x.count(2), 10);
    }

    /** "SEED 0 .. 9999 (0): the last one." */
    static void p04_theLastSeed() {
        String six = "speaker a 1;speaker b 1;pair a b;" + SIX + "pushes=0;";
        int[] bySeed0 = {5, 1, 4, 3, 1, 0, 4, 2, 5, 4, 3, 5};
        int[] bySeed9999 = {5, 3, 0, 4, 5, 1, 4, 5, 3, 0, 5, 1};
        CradlePairs untold = Due.told(six);
        CradlePairs zero = Due.told("seed 7;" + six + "seed 0;");
        CradlePairs most = Due.told("seed 7;seed 1;" + six + "seed 9999;");
        for (int i = 0; i < 12; i++) {
            untold.minutes(1);
            zero.minutes(1);
            most.minutes(1);
            due("not told: minute " + i, untold.count(4), bySeed0[i]);
            due("0: minute " + i, zero.count(4), bySeed0[i]);
            due("9999: minute " + i, most.count(4), bySeed9999[i]);
        }
    }

    /** "A text with a FAULT changes nothing but the tape" */
    static void p04_aFaultChangesNothing() {
        String[] wrong = {"tilt 5", "tilt 5;" + times(6, "speaker a 1;"), "tilt 5;word a 1;word a 1;",
            "speaker x 1;tilt 5;pair x y;", "speaker x 1;speaker y 1;word z 1;pair x y;pushes=9;wages=9;rests=9;bars=9;seed 1;tilt 20;"};
        for (int i = 0; i < wrong.length; i++) {
            CradlePairs x = Seen.busy();
            CradlePairs alike = Seen.busy();
            alike.back(alike.count(8));
            x.back(x.count(8));
            Due.tape(x, wrong[i]);
            due("read", x.read(), i + 1);
            Due.due("nothing changes", Seen.whole(x), Seen.whole(alike));
        }
    }

    /** "A text with a FAULT changes nothing but the tape": what would be stays, too. */
    static void p04_whatWouldBeStays() {
        CradlePairs x = Due.told("speaker a 1;speaker b 1;speaker c 9;word n 2;word o 2;pair a b;"
            + "pushes=if tongue+1<other then 0 else if other+1<tongue then 5 else 2;");
        due("who", x.who(), 0);
        due("calm", x.calm(0, 1), 0);
        due("calm of others", x.calm(1, 2), 2);
        Due.tape(x, "speaker a 9;speaker b 1;speaker c 1;word n 9;word o 1;pair a b;pushes=9;#");
        due("read", x.read(), 1);
        due("who stays", x.who(), 0);
        due("calm stays", x.calm(0, 1), 0);
        due("calm of others stays", x.calm(1, 2), 2);
        due("couples stay", x.couples(-1), 1);
        due("pushes stay", x.say(0), 12);
    }

    /** "else it is in place of the one ahead: the cradle SET, nothing said, nothing paid; nothing can be undone, .." */
    static void p04_inPlaceOfTheOneAhead() {
        String[] texts = {"", "tilt 3;", "speaker a 4;speaker b 5;word w 3;pair b a;tilt 8;", FIVE + SIX + "pair d e;bars=side;"};
        for (String text : texts) {
            CradlePairs x = Seen.busy();
            x.back(x.count(8));
            Due.tape(x, text);
            due("read", x.read(), 0);
            due("SET", x.set(), false);
            due("none said", x.count(4), -2);
            due("nothing paid", x.count(12), 0);
            due("nothing undone", x.undo(), false);
            due("nothing TOLD", x.count(10), 0);
            due("nothing held", x.count(11), 0);
            for (int slot = 0; slot < 3; slot++) {
                due("slot " + slot, x.restore(slot), false);
            }
            Due.due("as a new one", Seen.whole(x), Seen.whole(Due.told(text)));
        }
    }

    /** "it is in place of the one ahead": the same text read again is one, too. */
    static void p04_theSameTextAgain() {
        String text = "speaker a 4;speaker b 5;word w 3;word v 1;pair b a;tilt 8;wages=7;";
        CradlePairs x = Due.told(text);
        x.say(0);
        x.hire(0, 1);
        x.minutes(5);
        x.tell(1, 1, true);
        x.hold(1);
        Due.tape(x, text);
        due("read", x.read(), 0);
        Due.due("as a new one", Seen.whole(x), Seen.whole(Due.told(text)));
    }

    /** "it is in place of the one ahead": nothing of any text ahead is left, nor of one with a FAULT. */
    static void p04_nothingIsLeft() {
        String[] ahead = {FIVE + SIX + "pair a b;tilt 3;seed 77;pushes=9;wages=9;rests=9;bars=1;", "tilt 4;",
            FIVE + SIX + "pair a b;tilt 3;seed 77;pushes=9;wages=9;rests=9;bars=1;tilt 0;", FIVE + SIX + "pair c a;#",
            FIVE + "speaker f 1;", SIX + "word t 1;", "speaker z 1;word z 1;", "speaker z 1;pair z y;"};
        String[] then = {"speaker a 1;speaker b 2;word n 3;word o 4;",
            "speaker a 1;speaker b 2;word n 1;word o 2;word p 3;word q 4;pair a b;", ""};
        for (String text : then) {
            for (String one : ahead) {
                CradlePairs x = new CradlePairs();
                Due.tape(x, one);
                x.read();
                Due.tape(x, one);
                x.read();
                Due.tape(x, text);
                due("read behind " + one, x.read(), 0);
                due("place behind " + one, x.place(), -1);
                Due.due("as a new one", Seen.whole(x), Seen.whole(Due.told(text)));
            }
        }
    }

    /** "it is in place of the one ahead": of the same two other laws tell then. */
    static void p04_otherLawsOfTheSameTwo() {
        String text = "speaker a 1;speaker b 1;word n 2;word o 2;pair a b;";
        CradlePairs x = Due.told(text);
        for (int i = 1; i <= 9; i++) {
            Due.tape(x, text + "pushes=(1-side)*" + i + ";bars=which;tilt " + (20 - i) + ";");
            due("read", x.read(), 0);
            due("who", x.who(), 1);
            due("calm", x.calm(1, 0), 1);
            due("can be said", x.count(13), 1);
            due("said", x.say(0), 20);
            Due.tape(x, text + "pushes=" + i + ";");
            due("read", x.read(), 0);
            due("who", x.who(), 0);
            due("calm", x.calm(1, 0), 0);
            due("can be said", x.count(13), 3);
            due("said", x.say(1), 10 + i);
        }
    }

    /** "2 ROOM: a 401st TOKEN": of each text by itself. */
    static void p04_longTextsAgain() {
        CradlePairs x = new CradlePairs();
        for (int i = 0; i < 9; i++) {
            Due.tape(x, "speaker a 1;speaker b 1;word w 3;pair a b;pushes=" + times(190, "0+") + i + ";");
            due("read", x.read(), 0);
            due("pushes", x.word(0, 2), i);
        }
    }

    // ---- promise 5

    /** "The byte of the latest read()'s FAULT; NONE without.": without a read. */
    static void p05_withoutARead() {
        CradlePairs x = new CradlePairs();
        due("new", x.place(), -1);
        Due.tape(x, "#");
        due("not read yet", x.place(), -1);
        x.back(1);
        due("nor then", x.place(), -1);
    }

    /** "NONE without." */
    static void p05_withoutAFault() {
        CradlePairs x = new CradlePairs();
        x.read();
        due("of nothing", x.place(), -1);
        Due.tape(x, "tilt 0;");
        x.read();
        due("a fault", x.place(), 5);
        Due.tape(x, "tilt 1;");
        x.read();
        due("none", x.place(), -1);
    }

    /** "The byte of the latest read()'s FAULT" */
    static void p05_ofTheLatest() {
        CradlePairs x = new CradlePairs();
        String[] wrong = {"#", "tilt", "  #", "tilt 20;", "word a 1;word a 1;", "bars=(((((((1)))))));", ";"};
        int[] places = {0, 4, 2, 5, 14, 11, 0};
        for (int i = 0; i < wrong.length; i++) {
            Due.tape(x, wrong[i]);
            x.read();
            due("place in " + wrong[i], x.place(), places[i]);
            due("asked again", x.place(), places[i]);
        }
        x.read();
        due("behind an empty text", x.place(), -1);
    }

    /** "The byte of the latest read()'s FAULT": it stays, whatever else is called. */
    static void p05_staysUntilTheNextRead() {
        CradlePairs x = Seen.busy();
        Due.tape(x, "#");
        due("read", x.read(), 1);
        due("place", x.place(), 19);
        x.feed(0, 0, 0, 0, 0);
        x.back(5);
        x.say(1);
        x.minutes(3);
        x.hire(0, 1);
        x.set();
        x.undo();
        x.restore(0);
        x.forget();
        x.who();
        x.couples(-1);
        due("as it was", x.place(), 19);
    }

    /** "The byte": from the first one to the text's end of a full tape. */
    static void p05_firstAndLast() {
        fault("#" + times(1999, " "), 1, 0);
        fault(times(1999, " ") + "#", 1, 1999);
        fault(times(1995, " ") + "tilt ", 1, 2000);
    }

    public static void main(String[] args) throws ReflectiveOperationException {
        Each.run(TextBoundaryTest.class, 1, 5);
    }
}
