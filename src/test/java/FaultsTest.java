/** Promises 2 to 5: the tape, and each fault of a text with its place. */
public final class FaultsTest {
    private static void fault(String text, int number, int place) {
        Due.fault(text, number, place);
    }

    private static String times(int n, String s) {
        return s.repeat(n);
    }

    private static void tape() {
        CradlePairs x = new CradlePairs();
        Due.due("back(0) of nothing", x.back(0), 0);
        Due.due("back(1) of nothing", x.back(1), -1);
        for (int i = 1; i <= 100; i++) {
            Due.due("feed " + i, x.feed(i, 0, -1, Integer.MIN_VALUE, 7), 20 * i);
        }
        Due.due("feed 101", x.feed(1, 2, 3, 4, 5), -1);
        Due.due("bytes", x.count(8), 2000);
        Due.due("back(-1)", x.back(-1), -1);
        Due.due("back(2001)", x.back(2001), -1);
        Due.due("back(MIN)", x.back(Integer.MIN_VALUE), -1);
        Due.due("back(1)", x.back(1), 1999);
        Due.due("feed into 19", x.feed(1, 2, 3, 4, 5), -1);
        Due.due("back(19)", x.back(19), 1980);
        Due.due("feed into 20", x.feed(1, 2, 3, 4, 5), 2000);
        Due.due("back(2000)", x.back(2000), 0);
        Due.due("place without a read", new CradlePairs().place(), -1);
        // "seed" "1234" ";til" "t 3;" "    ": the highest byte of the first number comes first
        x.feed(0x73656564, 0x31323334, 0x3b74696c, 0x7420333b, 0x20202020);
        Due.due("read", x.read(), 0);
        Due.due("tilt read", x.count(2), 3);
        Due.due("tape behind read", x.count(8), 0);
        // what has gone from the tape is not read: no fifth digit, no ninth letter
        Due.tape(x, "tilt 12345");
        x.back(1);
        Due.due("four digits", x.read() * 100 + x.place(), 109);
        Due.tape(x, "speaker abcdefghi");
        x.back(1);
        Due.due("eight letters", x.read() * 100 + x.place(), 116);
    }

    private static void syntax() {
        fault("", 0, -1);
        fault(" \t\n\r", 0, -1);
        fault("\f", 1, 0);
        fault("\u00e9", 1, 0);
        fault("\0", 1, 0);
        fault("speaker", 1, 7);
        fault("speaker  ", 1, 9);
        fault("speaker 5", 1, 8);
        fault("speaker word 5;", 1, 8);
        fault("speaker same 5;", 1, 8);
        fault("speaker if 5;", 1, 8);
        fault("speaker abcdefgh 5;", 0, -1);
        fault("speaker abcdefghi 5;", 1, 8);
        fault("speaker a 12345;", 1, 10);
        fault("speaker a 0009;", 0, -1);
        fault("speakera 1;", 1, 0);
        fault("speaker a1;word b2;", 0, -1);
        fault("Speaker a 1;", 1, 0);
        fault("speaker aB 1;", 1, 9);
        fault("speaker a b;", 1, 10);
        fault("speaker a -1;", 1, 10);
        fault("speaker a 1", 1, 11);
        fault("speaker a 1;;", 1, 12);
        fault("speaker a 1.;", 1, 11);
        fault("speaker a 1;.", 1, 12);
        fault("a", 1, 0);
        fault("7", 1, 0);
        fault("if", 1, 0);
        fault("force", 1, 0);
        fault("pair a;", 1, 6);
        fault("pair a 1;", 1, 7);
        fault("tilt ten;", 1, 5);
        fault("tilt 10 10;", 1, 8);
        fault("seed 10000;", 1, 5);
        fault("seed;", 1, 4);
        laws();
    }

    private static void laws() {
        fault("bars 1;", 1, 5);
        fault("bars=;", 1, 5);
        fault("bars=1", 1, 6);
        fault("bars=-1;", 1, 5);
        fault("bars=1+;", 1, 7);
        fault("bars=1 2;", 1, 7);
        fault("bars=1<2;", 1, 6);
        fault("bars=(1;", 1, 7);
        fault("bars=1);", 1, 6);
        fault("bars=a;", 1, 5);
        fault("bars=tilt;", 1, 5);
        fault("bars=if 1 then 2 else 3;", 1, 10);
        fault("bars=if 1<2<3 then 2 else 3;", 1, 11);
        fault("bars=if 1<2 2 else 3;", 1, 12);
        fault("bars=if 1<2 then 2;", 1, 18);
        fault("bars=if 1<2 then if 1<2 then 1 else 1 else 3;", 1, 17);
        fault("bars=if(1<2)then 1 else 2;", 1, 9);
        fault("bars=if 1<2 then 3 else if same<words then which else side;", 0, -1);
        fault("bars=force+tongue-slope*last/side+which+other+words+same;", 0, -1);
        fault("pushes=1;wages=2;rests=3;bars=4;pushes=5;", 0, -1);
    }

    private static void room() {
        String five = "speaker a 1;speaker b 1;speaker c 1;speaker d 1;speaker e 1;";
        fault(five, 0, -1);
        fault(five + "speaker f 1;", 2, five.length());
        fault(five + "speaker", 2, five.length());
        fault(times(5, "speaker a 1;") + " speaker a 1;", 2, 61);
        String six = "word n 1;word o 1;word p 1;word q 1;word r 1;word s 1;";
        fault(five + six, 0, -1);
        fault(six + "word t 1;", 2, six.length());
        String four = "rests=" + times(4, "if 1<2 then 3 else ");
        fault(four + "4;", 0, -1);
        fault(four + "4;" + four + "4;", 0, -1);
        fault(four + "if 1<2 then 3 else 4;", 2, four.length());
        fault(four + "if", 2, four.length());
        fault("bars=((((((1))))));", 0, -1);
        fault("bars=(((((((1)))))));", 2, 11);
        fault("bars=(((((((", 2, 11);
        fault("bars=((((((1))))))+((((((1))))));", 0, -1);
        fault("bars=((((((1+(2)))))));", 2, 13);
        fault("bars=if((((((1))))))<1 then 1 else(((((((1)))))));", 2, 40);
        tokens();
    }

    private static void tokens() {
        String all = times(132, "seed 1;") + "bars=1;";
        fault(all, 0, -1);
        fault(all + " \n", 0, -1);
        fault(all + ";", 1, all.length());
        fault(all + "#", 1, all.length());
        fault(all + " seed 1;", 2, all.length() + 1);
        fault(times(133, "seed 1;") + "seed 1;", 2, 936);
        fault(times(133, "seed 1;") + "seed", 1, 935);
        fault(times(133, "seed 1;") + "seed 12345", 1, 936);
        fault("bars=" + times(199, "1+") + "1;", 2, 404 - 1);
        fault("bars=" + times(198, "1+") + "1;", 0, -1);
        fault(times(133, "seed 1;") + "speaker abcdefghi", 1, 939);
        fault("tilt 0;" + times(133, "seed 1;"), 2, 938 - 7 + 5);
    }

    private static void meaning() {
        fault("speaker a 10;", 5, 10);
        fault("speaker a 9;", 0, -1);
        fault("word a 0010;", 5, 7);
        fault("tilt 0;", 5, 5);
        fault("tilt 1;", 0, -1);
        fault("tilt 19;", 0, -1);
        fault("tilt 20;", 5, 5);
        fault("tilt 0;tilt 5;", 5, 5);
        fault("seed 0;seed 9999;", 0, -1);
        fault("bars=9999;", 0, -1);
        fault("speaker a 1;speaker a 2;", 3, 20);
        fault("speaker a 1;word a 2;", 3, 17);
        fault("word a 1;speaker a 2;", 3, 17);
        fault("word a 1;word a 2;", 3, 14);
        fault("speaker a 1;speaker ab 2;", 0, -1);
        fault("speaker abcdefgh 1;speaker abcdefg 2;word abcdefga 1;", 0, -1);
        fault("speaker ab 1;speaker ba 1;word aab 1;word c 1;word abb 1;pair ba ab;", 0, -1);
        fault("speaker a 1;speaker b 1;pair a b;", 0, -1);
        fault("speaker a 1;pair a a;", 3, 19);
        fault("speaker a 1;pair a b;", 4, 19);
        fault("speaker a 1;pair b a;", 4, 17);
        fault("speaker a 1;pair b b;", 4, 17);
        fault("word a 1;speaker b 1;pair a b;", 4, 26);
        fault("word a 1;speaker b 1;pair b a;", 4, 28);
        fault("pair a b;speaker a 1;speaker b 1;", 4, 5);
        fault("speaker a 10;speaker a 10;", 5, 10);
        fault("speaker a 1;speaker a 10;", 3, 20);
        fault("speaker a 10;pair", 1, 17);
        fault("pair a b;" + times(6, "speaker a 1;"), 2, 69);
        fault("speaker a 1;speaker a 1;pair b a;", 3, 20);
    }

    public static void main(String[] args) {
        tape();
        syntax();
        room();
        meaning();
        Due.end("FaultsTest");
    }
}
