/** The class and the model side by side: each call goes to both, and both must answer alike. */
final class Both {
    final CradlePairs x = new CradlePairs();
    final Model m = new Model();
    final StringBuilder log = new StringBuilder();
    int calls;
    int wrong;

    private int alike(String call, int got, int due) {
        calls++;
        log.append(call).append(" = ").append(got).append('\n');
        if (got != due) {
            wrong++;
            System.out.println(call + " answered " + got + ", due is " + due);
        }
        return got;
    }

    private static int bit(boolean b) {
        return b ? 1 : 0;
    }

    /** Feeds a text, whatever its length, and reads it. */
    int text(String s) {
        tape(s);
        return read();
    }

    void tape(String s) {
        int room = (20 - s.length() % 20) % 20;
        StringBuilder b = new StringBuilder(s);
        for (int i = 0; i < room; i++) {
            b.append(' ');
        }
        log.append("# ").append(s).append('\n');
        for (int at = 0; at < b.length(); at += 20) {
            int[] v = new int[5];
            for (int i = 0; i < 20; i++) {
                v[i / 4] = v[i / 4] << 8 | b.charAt(at + i) & 255;
            }
            feed(v[0], v[1], v[2], v[3], v[4]);
        }
        if (room > 0) {
            back(room);
        }
    }

    int feed(int a, int b, int c, int d, int e) {
        return alike("feed(" + a + ", " + b + ", " + c + ", " + d + ", " + e + ")", x.feed(a, b, c, d, e), m.feed(a, b, c, d, e));
    }

    int back(int n) {
        return alike("back(" + n + ")", x.back(n), m.back(n));
    }

    int read() {
        int fault = alike("read()", x.read(), m.read());
        alike("place()", x.place(), m.place());
        return fault;
    }

    /** The call that a number stands for, with three numbers and a boolean to choose from. */
    int call(int which, int a, int b, int c, boolean so) {
        switch (which) {
            case 0: return alike("say(" + a + ")", x.say(a), m.say(a));
            case 1: return alike("pass()", x.pass(), m.pass());
            case 2: return alike("hire(" + a + ", " + b + ")", x.hire(a, b), m.hire(a, b));
            case 3: return alike("set()", bit(x.set()), bit(m.set()));
            case 4: return alike("minutes(" + a + ")", x.minutes(a), m.minutes(a));
            case 5: return alike("undo()", bit(x.undo()), bit(m.undo()));
            case 6: return alike("hold(" + a + ")", bit(x.hold(a)), bit(m.hold(a)));
            case 7: return alike("restore(" + a + ")", bit(x.restore(a)), bit(m.restore(a)));
            case 8: return alike("tell(" + a + ", " + b + ", " + so + ")", x.tell(a, b, so), m.tell(a, b, so));
            case 9: return alike("forget()", x.forget(), m.forget());
            case 10: return alike("who()", x.who(), m.who());
            case 11: return alike("soon()", x.soon(), m.soon());
            case 12: return alike("best()", x.best(), m.best());
            case 13: return alike("together()", x.together(), m.together());
            case 14: return alike("even(" + a + ")", x.even(a), m.even(a));
            case 15: return alike("ways(" + a + ")", x.ways(a), m.ways(a));
            case 16: return alike("waking(" + a + ")", x.waking(a), m.waking(a));
            case 17: return alike("ring()", x.ring(), m.ring());
            case 18: return alike("reach()", x.reach(), m.reach());
            case 19: return alike("slopes()", x.slopes(), m.slopes());
            case 20: return alike("hangs()", x.hangs(), m.hangs());
            case 21: return alike("scale(" + a + ")", x.scale(a), m.scale(a));
            case 22: return alike("calm(" + a + ", " + b + ")", x.calm(a, b), m.calm(a, b));
            case 23: return alike("couples(" + a + ")", x.couples(a), m.couples(a));
            case 24: return alike("cheapest(" + a + ")", x.cheapest(a), m.cheapest(a));
            case 25: return alike("slopeIn(" + a + ")", x.slopeIn(a), m.slopeIn(a));
            case 26: return alike("year(" + a + ", " + b + ")", x.year(a, b), m.year(a, b));
            case 27: return alike("rows(" + a + ", " + b + ", " + c + ")", x.rows(a, b, c), m.rows(a, b, c));
            case 28: return alike("listen(" + a + ", " + b + ", " + c + ")", x.listen(a, b, c), m.listen(a, b, c));
            case 29: return alike("speaker(" + a + ", " + b + ")", x.speaker(a, b), m.speaker(a, b));
            case 30: return alike("word(" + a + ", " + b + ")", x.word(a, b), m.word(a, b));
            case 31: return alike("count(" + a + ")", x.count(a), m.count(a));
            default: return alike("place()", x.place(), m.place());
        }
    }

    static final int GLANCE = 14;
    static final int LOOK = 16 + 8 * 6 * 2;

    /** How it stands, in few calls. */
    void glance() {
        for (int what = 0; what < GLANCE; what++) {
            call(31, what, 0, 0, true);
        }
    }

    /** All that can be seen of how it stands, and what can not. */
    void look() {
        for (int what = -1; what <= 14; what++) {
            call(31, what, 0, 0, true);
        }
        for (int i = -1; i <= 6; i++) {
            for (int what = -1; what <= 4; what++) {
                call(29, i, what, 0, true);
                call(30, i, what, 0, true);
            }
        }
    }
}
