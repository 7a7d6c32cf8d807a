import java.util.ArrayDeque;
import java.util.ArrayList;
import java.util.Arrays;
import java.util.Deque;
import java.util.HashMap;
import java.util.HashSet;
import java.util.List;
import java.util.Map;
import java.util.Set;
import java.util.TreeMap;
import java.util.TreeSet;

/**
 * The document once more, told by brute force and without a thought for speed:
 * what the class answers is compared with what this answers.
 */
final class Model {
    static final int NONE = -1;
    static final int NOT = -2;

    /** A standing; last is -1 for none. */
    record Standing(int slope, int turn, int last) {
        boolean awake() {
            return slope == 0 || slope == 20;
        }
    }

    record Step(int move, Standing then) {
    }

    record Pair(int left, int right) {
    }

    record State(Standing standing, Pair pair, int minute, int paid, List<Integer> hired) {
    }

    record Tell(int i, int v, boolean so) {
    }

    /** A law: its ifs, and the last one. */
    record Law(List<Node[]> ifs, Node otherwise) {
    }

    /** A number, a var, or an operation of two. */
    record Node(char kind, int number, String name, Node a, Node b) {
    }

    static final class Fault extends RuntimeException {
        private static final long serialVersionUID = 1L;
        final int number;
        final int place;

        Fault(int number, int place) {
            this.number = number;
            this.place = place;
        }
    }

    static final class DividedByZero extends RuntimeException {
        private static final long serialVersionUID = 1L;
    }

    /** What a text tells. */
    static final class Told {
        final List<Integer> tongues = new ArrayList<>();
        final List<Integer> forces = new ArrayList<>();
        final Map<String, Law> laws = new HashMap<>();
        Pair pair;
        int tilt = 10;
        int seed;
    }

    Told text = new Told();
    State now = fresh(text);
    final Deque<State> past = new ArrayDeque<>();
    final State[] slots = new State[3];
    final List<Tell> tells = new ArrayList<>();
    final List<Integer> tape = new ArrayList<>();
    int place = NONE;

    static State fresh(Told text) {
        return new State(even(text), text.pair, 0, 0, List.of(0, 0, 0, 0, 0));
    }

    static Standing even(Told text) {
        return new Standing(text.tilt, 0, -1);
    }

    // ---- the tape

    int feed(int a, int b, int c, int d, int e) {
        if (tape.size() + 20 > 2000) {
            return NONE;
        }
        for (int v : new int[] {a, b, c, d, e}) {
            for (int shift = 24; shift >= 0; shift -= 8) {
                tape.add(v >> shift & 255);
            }
        }
        return tape.size();
    }

    int back(int n) {
        if (n < 0 || n > tape.size()) {
            return NONE;
        }
        while (n-- > 0) {
            tape.remove(tape.size() - 1);
        }
        return tape.size();
    }

    int read() {
        StringBuilder b = new StringBuilder();
        for (int v : tape) {
            b.append((char) v);
        }
        tape.clear();
        try {
            text = new Parser(b.toString()).parse();
        } catch (Fault f) {
            place = f.place;
            return f.number;
        }
        place = NONE;
        now = fresh(text);
        past.clear();
        Arrays.fill(slots, null);
        tells.clear();
        return 0;
    }

    /** Reads a text by recursive descent over its signs, not over a list of tokens. */
    static final class Parser {
        static final List<String> QUOTED = List.of("speaker", "word", "pair", "pushes", "wages", "rests", "bars",
            "tilt", "seed", "if", "then", "else", "force", "tongue", "slope", "last", "side", "which", "other",
            "words", "same");
        final String s;
        int at;
        int taken;
        String token;
        char kind;
        int where;
        final Told told = new Told();
        final List<String> speakers = new ArrayList<>();
        final List<String> words = new ArrayList<>();
        final TreeMap<Integer, Integer> later = new TreeMap<>();

        Parser(String s) {
            this.s = s;
            advance();
        }

        void advance() {
            while (at < s.length() && "\t\n\r ".indexOf(s.charAt(at)) >= 0) {
                at++;
            }
            where = at;
            if (at == s.length()) {
                kind = 'E';
                token = "";
                return;
            }
            char c = s.charAt(at);
            int end = at + 1;
            if (c >= 'a' && c <= 'z') {
                while (end < s.length() && s.charAt(end) >= 'a' && s.charAt(end) <= 'z') {
                    end++;
                }
                token = s.substring(at, end);
                kind = token.length() > 8 ? '?' : QUOTED.contains(token) ? 'Q' : 'N';
            } else if (c >= '0' && c <= '9') {
                while (end < s.length() && s.charAt(end) >= '0' && s.charAt(end) <= '9') {
                    end++;
                }
                token = s.substring(at, end);
                kind = token.length() > 4 ? '?' : 'I';
            } else {
                token = s.substring(at, end);
                kind = ";=+-*/<()".contains(token) ? 'Q' : '?';
            }
            at = end;
        }

        boolean isQuoted(String what) {
            return kind == 'Q' && token.equals(what);
        }

        String took() {
            if (++taken > 400) {
                throw new Fault(2, where);
            }
            String t = token;
            advance();
            return t;
        }

        void quoted(String what) {
            if (!isQuoted(what)) {
                throw new Fault(1, where);
            }
            took();
        }

        String name() {
            if (kind != 'N') {
                throw new Fault(1, where);
            }
            return took();
        }

        int number() {
            if (kind != 'I') {
                throw new Fault(1, where);
            }
            return Integer.parseInt(took());
        }

        void late(int fault, int at) {
            later.merge(at, fault, Math::min);
        }

        Told parse() {
            while (kind != 'E') {
                tell();
            }
            if (!later.isEmpty()) {
                throw new Fault(later.firstEntry().getValue(), later.firstKey());
            }
            return told;
        }

        void tell() {
            if (kind != 'Q') {
                throw new Fault(1, where);
            }
            switch (token) {
                case "speaker" -> sort(speakers, told.tongues, 5);
                case "word" -> sort(words, told.forces, 6);
                case "pair" -> pair();
                case "pushes", "wages", "rests", "bars" -> law();
                case "tilt" -> {
                    took();
                    int w = where;
                    told.tilt = number();
                    if (told.tilt < 1 || told.tilt > 19) {
                        late(5, w);
                    }
                }
                case "seed" -> {
                    took();
                    told.seed = number();
                }
                default -> throw new Fault(1, where);
            }
            quoted(";");
        }

        void sort(List<String> names, List<Integer> numbers, int most) {
            if (names.size() == most) {
                throw new Fault(2, where);
            }
            took();
            int w = where;
            String n = name();
            if (speakers.contains(n) || words.contains(n)) {
                late(3, w);
            }
            names.add(n);
            w = where;
            int v = number();
            if (v > 9) {
                late(5, w);
            }
            numbers.add(v);
        }

        void pair() {
            took();
            int w = where;
            String a = name();
            if (!speakers.contains(a)) {
                late(4, w);
            }
            w = where;
            String b = name();
            if (a.equals(b)) {
                late(3, w);
            }
            if (!speakers.contains(b)) {
                late(4, w);
            }
            told.pair = new Pair(speakers.indexOf(a), speakers.indexOf(b));
        }

        void law() {
            String which = took();
            quoted("=");
            List<Node[]> ifs = new ArrayList<>();
            while (isQuoted("if")) {
                if (ifs.size() == 4) {
                    throw new Fault(2, where);
                }
                took();
                Node a = sum(0);
                quoted("<");
                Node b = sum(0);
                quoted("then");
                Node c = sum(0);
                quoted("else");
                ifs.add(new Node[] {a, b, c});
            }
            told.laws.put(which, new Law(ifs, sum(0)));
        }

        Node sum(int depth) {
            Node a = product(depth);
            while (isQuoted("+") || isQuoted("-")) {
                a = new Node(took().charAt(0), 0, null, a, product(depth));
            }
            return a;
        }

        Node product(int depth) {
            Node a = unit(depth);
            while (isQuoted("*") || isQuoted("/")) {
                a = new Node(took().charAt(0), 0, null, a, unit(depth));
            }
            return a;
        }

        Node unit(int depth) {
            if (isQuoted("(")) {
                if (depth == 6) {
                    throw new Fault(2, where);
                }
                took();
                Node a = sum(depth + 1);
                quoted(")");
                return a;
            }
            if (kind == 'Q' && QUOTED.indexOf(token) >= 12) {
                return new Node('v', 0, took(), null, null);
            }
            return new Node('n', number(), null, null, null);
        }
    }

    // ---- laws

    int law(String which, Pair pair, int side, Standing st, int word) {
        int self = side == 0 ? pair.left : pair.right;
        int other = side == 0 ? pair.right : pair.left;
        Map<String, Integer> vars = new HashMap<>();
        vars.put("force", word < 0 ? 0 : text.forces.get(word));
        vars.put("tongue", text.tongues.get(self));
        vars.put("slope", st.slope);
        vars.put("last", st.last + 1);
        vars.put("side", side);
        vars.put("which", Math.max(word, 0));
        vars.put("other", text.tongues.get(other));
        vars.put("words", text.forces.size());
        vars.put("same", word >= 0 && st.last >= 0 && text.forces.get(word).equals(text.forces.get(st.last)) ? 1 : 0);
        Law law = text.laws.get(which);
        if (law == null) {
            return which.equals("pushes") ? vars.get("force") : which.equals("wages") ? vars.get("tongue") : 0;
        }
        try {
            for (Node[] i : law.ifs) {
                if (value(i[0], vars) < value(i[1], vars)) {
                    return value(i[2], vars);
                }
            }
            return value(law.otherwise, vars);
        } catch (DividedByZero d) {
            return 0;
        }
    }

    static int value(Node n, Map<String, Integer> vars) {
        if (n.kind == 'n') {
            return n.number;
        }
        if (n.kind == 'v') {
            return vars.get(n.name);
        }
        int a = value(n.a, vars);
        int b = value(n.b, vars);
        if (n.kind == '/' && b == 0) {
            throw new DividedByZero();
        }
        long exact = switch (n.kind) {
            case '+' -> (long) a + b;
            case '-' -> (long) a - b;
            case '*' -> (long) a * b;
            default -> (long) a / b;
        };
        return (int) exact;
    }

    static int held(int v, int most) {
        return Math.max(0, Math.min(most, v));
    }

    int wages(Pair p) {
        return held(law("wages", p, 0, even(text), -1), 99) + held(law("wages", p, 1, even(text), -1), 99);
    }

    // ---- turns

    private final Map<String, List<Step>> memo = new HashMap<>();
    private Told memoOf;

    /** What can be taken, without the words in ban. */
    List<Step> steps(Pair pair, Standing st, int ban) {
        if (pair == null || st.awake()) {
            return List.of();
        }
        if (memoOf != text) {
            memo.clear();
            memoOf = text;
        }
        return memo.computeIfAbsent(pair + " " + st + " " + ban, k -> reckonSteps(pair, st, ban));
    }

    private List<Step> reckonSteps(Pair pair, Standing st, int ban) {
        List<Step> list = new ArrayList<>();
        for (int w = 0; w < text.forces.size(); w++) {
            if (w != st.last && (ban >> w & 1) == 0 && law("bars", pair, st.turn, st, w) <= 0) {
                int p = held(law("pushes", pair, st.turn, st, w), 9);
                list.add(new Step(w, new Standing(held(st.slope + (st.turn == 0 ? p : -p), 20), 1 - st.turn, w)));
            }
        }
        if (list.isEmpty()) {
            int slope = st.slope;
            for (int i = held(law("rests", pair, st.turn, st, -1), 9); i > 0; i--) {
                slope += Integer.signum(10 - slope);
            }
            list.add(new Step(6, new Standing(slope, 1 - st.turn, -1)));
        }
        return list;
    }

    static int lot(int n, int seed, int which) {
        int h = seed;
        for (int it : new int[] {199, which}) {
            h = (h ^ it) * 1103515245 + 12345;
            h = h ^ (h >>> 15);
        }
        return (h >>> 1) % n;
    }

    Standing minute(Standing st, int seed, int minute) {
        List<Step> steps = steps(now.pair, st, 0);
        return steps.isEmpty() ? st : steps.get(lot(steps.size(), seed, minute)).then;
    }

    Standing minutesOn(int n, int seed) {
        Standing st = now.standing;
        for (int i = 0; i < n; i++) {
            st = minute(st, seed, now.minute + i);
        }
        return st;
    }

    // ---- by hand

    void done(State next) {
        past.addLast(now);
        if (past.size() > 40) {
            past.removeFirst();
        }
        now = next;
    }

    int take(int move) {
        for (Step s : steps(now.pair, now.standing, 0)) {
            if (s.move == move) {
                done(new State(s.then, now.pair, now.minute, now.paid, now.hired));
                return s.then.slope;
            }
        }
        return NONE;
    }

    int say(int word) {
        return word == 6 ? NONE : take(word);
    }

    int pass() {
        return take(6);
    }

    boolean two(int left, int right) {
        int n = text.tongues.size();
        return left >= 0 && right >= 0 && left < n && right < n && left != right;
    }

    int hire(int left, int right) {
        if (!two(left, right) || new Pair(left, right).equals(now.pair)) {
            return NONE;
        }
        Pair p = new Pair(left, right);
        List<Integer> hired = new ArrayList<>(now.hired);
        hired.set(left, hired.get(left) + 1);
        hired.set(right, hired.get(right) + 1);
        done(new State(even(text), p, now.minute, now.paid + wages(p), hired));
        return wages(p);
    }

    boolean set() {
        if (now.standing.equals(even(text))) {
            return false;
        }
        done(new State(even(text), now.pair, now.minute, now.paid, now.hired));
        return true;
    }

    int minutes(int n) {
        if (n < 0 || n > 200) {
            return NONE;
        }
        if (n > 0) {
            done(new State(minutesOn(n, text.seed), now.pair, now.minute + n, now.paid, now.hired));
        }
        return now.minute;
    }

    boolean undo() {
        if (past.isEmpty()) {
            return false;
        }
        now = past.removeLast();
        return true;
    }

    boolean hold(int slot) {
        if (slot < 0 || slot > 2) {
            return false;
        }
        slots[slot] = now;
        return true;
    }

    boolean restore(int slot) {
        if (slot < 0 || slot > 2 || slots[slot] == null) {
            return false;
        }
        now = slots[slot];
        past.clear();
        return true;
    }

    // ---- what would be

    Set<Standing> reachable(Pair pair, Standing from, int ban) {
        Set<Standing> seen = new HashSet<>();
        Deque<Standing> todo = new ArrayDeque<>(List.of(from));
        while (!todo.isEmpty()) {
            Standing st = todo.pop();
            if (seen.add(st)) {
                steps(pair, st, ban).forEach(s -> todo.push(s.then));
            }
        }
        return seen;
    }

    /** The fewest turns within which one side can bring it about, for each standing; none: not there. */
    Map<Standing, Integer> forced(Pair pair, Standing from, int ban, int side) {
        Set<Standing> all = reachable(pair, from, ban);
        Map<Standing, Integer> within = new HashMap<>();
        for (Standing st : all) {
            if (st.slope == (side == 0 ? 20 : 0)) {
                within.put(st, 0);
            }
        }
        for (int d = 1; d <= 300; d++) {
            Set<Standing> before = new HashSet<>(within.keySet());
            for (Standing st : all) {
                List<Step> steps = steps(pair, st, ban);
                boolean won = st.turn == side
                    ? steps.stream().anyMatch(s -> before.contains(s.then))
                    : !steps.isEmpty() && steps.stream().allMatch(s -> before.contains(s.then));
                if (won && !before.contains(st)) {
                    within.put(st, d);
                }
            }
            if (within.size() == before.size()) {
                break;
            }
        }
        return within;
    }

    int whoOf(Pair pair, Standing st, int ban) {
        if (forced(pair, st, ban, 0).containsKey(st)) {
            return 1;
        }
        return forced(pair, st, ban, 1).containsKey(st) ? 2 : 0;
    }

    int soonOf(Pair pair, Standing st) {
        int who = whoOf(pair, st, 0);
        return who == 0 ? NOT : forced(pair, st, 0, who - 1).get(st);
    }

    int who() {
        return whoOf(now.pair, now.standing, 0);
    }

    int soon() {
        return soonOf(now.pair, now.standing);
    }

    int best() {
        List<Step> steps = steps(now.pair, now.standing, 0);
        if (steps.isEmpty()) {
            return NOT;
        }
        int mine = now.standing.turn + 1;
        int who = who();
        Step best = null;
        for (Step s : steps) {
            int then = whoOf(now.pair, s.then, 0);
            if (who == mine) {
                if (then == mine && (best == null || soonOf(now.pair, s.then) < soonOf(now.pair, best.then))) {
                    best = s;
                }
            } else if (who == 0) {
                if (then == 0 && best == null) {
                    best = s;
                }
            } else if (best == null || soonOf(now.pair, s.then) > soonOf(now.pair, best.then)) {
                best = s;
            }
        }
        return best.move;
    }

    Set<Standing> layer(Set<Standing> from, int lean, boolean asleep) {
        Set<Standing> next = new HashSet<>();
        for (Standing st : from) {
            for (Step s : steps(now.pair, st, 0)) {
                if (!(asleep && s.then.awake()) && Math.abs(s.then.slope - 10) <= lean) {
                    next.add(s.then);
                }
            }
        }
        return next;
    }

    int together() {
        Set<Standing> layer = Set.of(now.standing);
        for (int t = 0; t < 200; t++) {
            layer = layer(layer, 10, true);
            if (layer.isEmpty()) {
                return t;
            }
        }
        return 200;
    }

    int even(int n) {
        if (n < 0 || n > 40) {
            return NONE;
        }
        for (int lean = 0; lean <= 9; lean++) {
            Set<Standing> layer = Math.abs(now.standing.slope - 10) <= lean ? Set.of(now.standing) : Set.of();
            for (int t = 0; t < n; t++) {
                layer = layer(layer, lean, true);
            }
            if (!layer.isEmpty()) {
                return lean;
            }
        }
        return NOT;
    }

    /** Rows of just n turns: those with the child asleep behind all, or woken by the last one only. */
    int rowsOf(Standing st, int n, boolean waking) {
        if (st.awake()) {
            return waking && n == 0 ? 1 : 0;
        }
        if (n == 0) {
            return waking ? 0 : 1;
        }
        int sum = 0;
        for (Step s : steps(now.pair, st, 0)) {
            sum += rowsOf(s.then, n - 1, waking);
        }
        return sum;
    }

    int ways(int n) {
        return n < 0 || n > 7 ? NONE : rowsOf(now.standing, n, false);
    }

    int waking(int n) {
        if (n < 0 || n > 7) {
            return NONE;
        }
        int sum = 0;
        for (int i = 1; i <= n; i++) {
            sum += rowsOf(now.standing, i, true);
        }
        return sum;
    }

    int ring() {
        Set<Standing> layer = Set.of(now.standing);
        for (int t = 1; t <= 300; t++) {
            layer = layer(layer, 10, false);
            if (layer.contains(now.standing)) {
                return t;
            }
        }
        return NOT;
    }

    int reach() {
        return reachable(now.pair, now.standing, 0).size();
    }

    int slopes() {
        int bits = 0;
        for (Standing st : reachable(now.pair, now.standing, 0)) {
            bits |= 1 << st.slope;
        }
        return bits;
    }

    int hangs() {
        int bits = 0;
        for (int w = 0; w < text.forces.size(); w++) {
            if (whoOf(now.pair, now.standing, 1 << w) != who()) {
                bits |= 1 << w;
            }
        }
        return bits;
    }

    int scale(int word) {
        if (word < 0 || word >= text.forces.size()) {
            return NONE;
        }
        for (Step s : steps(now.pair, now.standing, 0)) {
            if (s.move == word) {
                return whoOf(now.pair, s.then, 0);
            }
        }
        return NOT;
    }

    int calm(int left, int right) {
        return two(left, right) ? whoOf(new Pair(left, right), even(text), 0) : NONE;
    }

    int couples(int i) {
        int n = text.tongues.size();
        if (i < NONE || i >= n) {
            return NONE;
        }
        boolean[][] may = new boolean[n][n];
        for (int a = 0; a < n; a++) {
            for (int b = a + 1; b < n; b++) {
                may[a][b] = calm(a, b) == 0;
                may[b][a] = may[a][b];
            }
        }
        int[] best = null;
        int most = -1;
        int all = (int) Math.round(Math.pow(n + 1, n));
        for (int code = 0; code < all; code++) {
            int[] mates = new int[n];
            int rest = code;
            for (int a = n - 1; a >= 0; a--) {
                mates[a] = rest % (n + 1);
                rest /= n + 1;
            }
            int size = 0;
            boolean good = true;
            for (int a = 0; a < n; a++) {
                if (mates[a] < n) {
                    size++;
                    good &= may[a][mates[a]] && mates[mates[a]] == a;
                }
            }
            if (good && size > most) {
                most = size;
                best = mates;
            }
        }
        return i == NONE ? most / 2 : best[i] == n ? NOT : best[i];
    }

    int cheapest(int what) {
        if (what < 0 || what > 1) {
            return NONE;
        }
        TreeSet<Integer> found = new TreeSet<>();
        int n = text.tongues.size();
        for (int a = 0; a < n; a++) {
            for (int b = a + 1; b < n; b++) {
                if (calm(a, b) == 0) {
                    found.add(wages(new Pair(a, b)) * 100 + 10 * a + b);
                }
            }
        }
        return found.isEmpty() ? NOT : what == 0 ? found.first() % 100 : found.first() / 100;
    }

    int slopeIn(int n) {
        return n < 0 || n > 200 ? NONE : minutesOn(n, text.seed).slope;
    }

    int year(int n, int s) {
        if (n < 0 || n > 200 || s < 1 || s > 20) {
            return NONE;
        }
        int awake = 0;
        for (int i = 0; i < s; i++) {
            awake += minutesOn(n, text.seed + i).awake() ? 1 : 0;
        }
        return awake;
    }

    // ---- what is told

    int tell(int i, int v, boolean so) {
        if (i < 1 || i > 5 || v < 0 || v > 20 || tells.size() == 20) {
            return NONE;
        }
        tells.add(new Tell(i, v, so));
        return tells.size() - 1;
    }

    int forget() {
        int n = tells.size();
        tells.clear();
        return n;
    }

    /** All rows of l turns, as moves followed by slopes. */
    List<int[]> allRows(Standing st, int l) {
        if (l == 0) {
            return List.of(new int[0]);
        }
        List<int[]> all = new ArrayList<>();
        for (Step s : steps(now.pair, st, 0)) {
            for (int[] rest : allRows(s.then, l - 1)) {
                int[] row = new int[2 + rest.length];
                row[0] = s.move;
                row[1] = s.then.slope;
                System.arraycopy(rest, 0, row, 2, rest.length);
                all.add(row);
            }
        }
        return all;
    }

    List<int[]> fitting(int l, List<Tell> known) {
        List<int[]> all = new ArrayList<>();
        for (int[] row : allRows(now.standing, l)) {
            if (known.stream().allMatch(t -> t.i <= l && row[2 * t.i - 1] >= t.v == t.so)) {
                all.add(row);
            }
        }
        return all;
    }

    int rows(int k, int l, int what) {
        if (k < 0 || k > tells.size() || l < 1 || l > 5 || what < 0 || what > 1) {
            return NONE;
        }
        List<int[]> fit = fitting(l, tells.subList(0, k));
        if (what == 0) {
            return fit.size();
        }
        if (fit.isEmpty()) {
            return NOT;
        }
        int code = 0;
        for (int i = 0; i < l; i++) {
            code = 7 * code + fit.get(0)[2 * i];
        }
        return code;
    }

    int listen(int k, int l, int v) {
        if (k < 0 || k > tells.size() || l < 1 || l > 5 || v < 0 || v > 20) {
            return NONE;
        }
        if (fitting(l, tells.subList(0, k)).isEmpty()) {
            return NOT;
        }
        int best = 0;
        int least = Integer.MAX_VALUE;
        for (int i = 1; i <= l; i++) {
            List<Tell> yes = new ArrayList<>(tells.subList(0, k));
            List<Tell> no = new ArrayList<>(yes);
            yes.add(new Tell(i, v, true));
            no.add(new Tell(i, v, false));
            int worst = Math.max(fitting(l, yes).size(), fitting(l, no).size());
            if (worst < least) {
                least = worst;
                best = i;
            }
        }
        return best;
    }

    // ---- what is there

    int place() {
        return place;
    }

    int speaker(int speaker, int what) {
        if (speaker < 0 || speaker >= text.tongues.size() || what < 0 || what > 2) {
            return NONE;
        }
        if (what == 0) {
            return text.tongues.get(speaker);
        }
        if (what == 2) {
            return now.hired.get(speaker);
        }
        return now.pair == null ? NOT : now.pair.left == speaker ? 0 : now.pair.right == speaker ? 1 : NOT;
    }

    int word(int word, int what) {
        if (word < 0 || word >= text.forces.size() || what < 0 || what > 3) {
            return NONE;
        }
        if (what == 0) {
            return text.forces.get(word);
        }
        if (what == 1) {
            return count(13) >> word & 1;
        }
        if (now.pair == null) {
            return 0;
        }
        Standing st = now.standing;
        return what == 2 ? held(law("pushes", now.pair, st.turn, st, word), 9)
            : law("bars", now.pair, st.turn, st, word) > 0 ? 1 : 0;
    }

    int count(int what) {
        int bits = 0;
        for (Step s : steps(now.pair, now.standing, 0)) {
            bits |= s.move < 6 ? 1 << s.move : 0;
        }
        int held = 0;
        for (State s : slots) {
            held += s == null ? 0 : 1;
        }
        Standing st = now.standing;
        return switch (what) {
            case 0 -> text.tongues.size();
            case 1 -> text.forces.size();
            case 2 -> st.slope;
            case 3 -> st.turn;
            case 4 -> st.last < 0 ? NOT : st.last;
            case 5 -> now.pair == null ? NOT : now.pair.left;
            case 6 -> now.pair == null ? NOT : now.pair.right;
            case 7 -> now.minute;
            case 8 -> tape.size();
            case 9 -> past.size();
            case 10 -> tells.size();
            case 11 -> held;
            case 12 -> now.paid;
            case 13 -> bits;
            default -> NONE;
        };
    }
}
