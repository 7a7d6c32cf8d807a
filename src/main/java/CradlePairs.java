import java.util.Arrays;

/** A cradle rocked by disagreement; ../shared/DOC.md tells what each call promises. */
public final class CradlePairs {
    public static final int NONE = -1;

    /** What a call answers where nobody, nothing or no such outcome is there. */
    private static final int NOT_THERE = -2;

    private static final int TAPE_MOST = 2000;
    private static final int FEED_BYTES = 20;
    private static final int TOKENS_MOST = 400;
    private static final int SPEAKERS_MOST = 5;
    private static final int WORDS_MOST = 6;
    private static final int DIGIT_MOST = 9;
    private static final int UNDO_MOST = 40;
    private static final int TOLD_MOST = 20;
    private static final int SLOTS = 3;

    private static final int SLOPE_MOST = 20;
    private static final int LEVEL = 10;
    private static final int WAGES_MOST = 99;
    private static final int LEFT = 0;
    private static final int RIGHT = 1;
    private static final int LEFT_WINS = 1;
    private static final int RIGHT_WINS = 2;

    /** A turn is a word's number, or this one. */
    private static final int PASSING = 6;
    private static final int MOVES = 7;
    private static final int LASTS = WORDS_MOST + 1;
    private static final int STANDINGS = (SLOPE_MOST + 1) * 2 * LASTS;

    private static final int MINUTES_MOST = 200;
    private static final int SEEDS_MOST = 20;
    private static final int TOGETHER_MOST = 200;
    private static final int EVEN_MOST = 40;
    private static final int WAYS_MOST = 7;
    private static final int ROW_MOST = 5;
    private static final int ALL_WORDS = 0;

    private static final int PUSHES = 0;
    private static final int WAGES = 1;
    private static final int RESTS = 2;
    private static final int BARS = 3;
    private static final int LAWS = 4;

    private final Tokens tokens;
    private final Reader reader;
    private Text text;
    private Text spare;
    private int faultPlace;
    private final Going going;
    private final Past past;
    private final Going[] slots;
    private final boolean[] held;
    private final Told told;
    private final Game game;
    private final Forecast forecast;
    private final Walk walk;
    private final Matching matching;
    private final int[] calms;

    public CradlePairs() {
        tokens = new Tokens();
        reader = new Reader(tokens);
        text = new Text();
        spare = new Text();
        faultPlace = NONE;
        going = new Going();
        past = new Past();
        slots = new Going[SLOTS];
        for (int i = 0; i < SLOTS; i++) {
            slots[i] = new Going();
        }
        held = new boolean[SLOTS];
        game = new Game();
        told = new Told(game);
        forecast = new Forecast(game);
        walk = new Walk(game);
        matching = new Matching();
        calms = new int[SPEAKERS_MOST * SPEAKERS_MOST];
        beginAnew();
    }

    public int feed(int a, int b, int c, int d, int e) {
        if (tokens.length + FEED_BYTES > TAPE_MOST) {
            return NONE;
        }
        tokens.append(a);
        tokens.append(b);
        tokens.append(c);
        tokens.append(d);
        tokens.append(e);
        return tokens.length;
    }

    public int back(int n) {
        if (n < 0 || n > tokens.length) {
            return NONE;
        }
        tokens.length -= n;
        return tokens.length;
    }

    public int read() {
        int fault = reader.readInto(spare);
        faultPlace = reader.place;
        tokens.length = 0;
        if (fault == 0) {
            Text former = text;
            text = spare;
            spare = former;
            beginAnew();
        }
        return fault;
    }

    public int place() {
        return faultPlace;
    }

    public int speaker(int speaker, int what) {
        if (!text.hasSpeaker(speaker)) {
            return NONE;
        }
        switch (what) {
            case 0:
                return text.tongues[speaker];
            case 1:
                if (speaker == going.left) {
                    return LEFT;
                }
                return speaker == going.right ? RIGHT : NOT_THERE;
            case 2:
                return going.hired[speaker];
            default:
                return NONE;
        }
    }

    public int word(int word, int what) {
        if (!text.hasWord(word)) {
            return NONE;
        }
        switch (what) {
            case 0:
                return text.forces[word];
            case 1:
                return sayable() >> word & 1;
            case 2:
                return game.pushesOf(going.standing, word);
            case 3:
                return game.isBarred(going.standing, word) ? 1 : 0;
            default:
                return NONE;
        }
    }

    public int say(int word) {
        return text.hasWord(word) ? takeTurn(word) : NONE;
    }

    public int pass() {
        return takeTurn(PASSING);
    }

    public int hire(int left, int right) {
        if (!areTwo(left, right) || (left == going.left && right == going.right)) {
            return NONE;
        }
        past.keep(going);
        int pay = text.wagesOfBoth(left, right);
        going.left = left;
        going.right = right;
        going.hired[left]++;
        going.hired[right]++;
        going.paid += pay;
        going.standing = text.evenStanding();
        game.lay(text, left, right);
        return pay;
    }

    public boolean set() {
        if (going.standing == text.evenStanding()) {
            return false;
        }
        past.keep(going);
        going.standing = text.evenStanding();
        return true;
    }

    public int minutes(int n) {
        if (n < 0 || n > MINUTES_MOST) {
            return NONE;
        }
        if (n > 0) {
            past.keep(going);
            going.standing = game.afterMinutes(going.standing, going.minute, text.seed, n);
            going.minute += n;
        }
        return going.minute;
    }

    public boolean undo() {
        if (!past.takeBack(going)) {
            return false;
        }
        game.lay(text, going.left, going.right);
        return true;
    }

    public int who() {
        return forecast.foresee(going.standing, ALL_WORDS);
    }

    public int soon() {
        int winner = forecast.foresee(going.standing, ALL_WORDS);
        return winner == 0 ? NOT_THERE : forecast.turns[going.standing];
    }

    public int best() {
        return forecast.bestMove(going.standing);
    }

    public int together() {
        return forecast.longestAsleep(going.standing, TOGETHER_MOST);
    }

    public int even(int n) {
        return n < 0 || n > EVEN_MOST ? NONE : walk.leastLean(going.standing, n);
    }

    public int ways(int n) {
        return n < 0 || n > WAYS_MOST ? NONE : walk.asleepRows(going.standing, n);
    }

    public int waking(int n) {
        return n < 0 || n > WAYS_MOST ? NONE : walk.wakingRows(going.standing, n);
    }

    public int ring() {
        return forecast.shortestRing(going.standing);
    }

    public int reach() {
        forecast.spread(going.standing, ALL_WORDS);
        return forecast.size;
    }

    public int slopes() {
        forecast.spread(going.standing, ALL_WORDS);
        return forecast.slopeBits();
    }

    public int hangs() {
        int winner = forecast.foresee(going.standing, ALL_WORDS);
        int bits = 0;
        for (int word = 0; word < text.words; word++) {
            if (forecast.foresee(going.standing, 1 << word) != winner) {
                bits |= 1 << word;
            }
        }
        return bits;
    }

    public int scale(int word) {
        if (!text.hasWord(word)) {
            return NONE;
        }
        game.open(going.standing);
        int then = game.after(going.standing, word, ALL_WORDS);
        return then == NONE ? NOT_THERE : forecast.foresee(then, ALL_WORDS);
    }

    public int calm(int left, int right) {
        return areTwo(left, right) ? calmOf(left, right) : NONE;
    }

    public int couples(int i) {
        if (i != NONE && !text.hasSpeaker(i)) {
            return NONE;
        }
        matching.begin(text.speakers);
        for (int left = 0; left < text.speakers; left++) {
            for (int right = left + 1; right < text.speakers; right++) {
                matching.allow(left, right, calmOf(left, right) == 0);
            }
        }
        matching.match();
        return i == NONE ? matching.most : matching.mates[i];
    }

    public int cheapest(int what) {
        if (what != 0 && what != 1) {
            return NONE;
        }
        int two = NOT_THERE;
        int least = NOT_THERE;
        for (int left = 0; left < text.speakers; left++) {
            for (int right = left + 1; right < text.speakers; right++) {
                int pay = text.wagesOfBoth(left, right);
                if ((two == NOT_THERE || pay < least) && calmOf(left, right) == 0) {
                    two = 10 * left + right;
                    least = pay;
                }
            }
        }
        return what == 0 ? two : least;
    }

    public int slopeIn(int n) {
        if (n < 0 || n > MINUTES_MOST) {
            return NONE;
        }
        return slopeOf(game.afterMinutes(going.standing, going.minute, text.seed, n));
    }

    public int year(int n, int s) {
        if (n < 0 || n > MINUTES_MOST || s < 1 || s > SEEDS_MOST) {
            return NONE;
        }
        int awake = 0;
        for (int i = 0; i < s; i++) {
            if (isAwake(game.afterMinutes(going.standing, going.minute, text.seed + i, n))) {
                awake++;
            }
        }
        return awake;
    }

    public int tell(int i, int v, boolean so) {
        if (i < 1 || i > ROW_MOST || v < 0 || v > SLOPE_MOST) {
            return NONE;
        }
        return told.add(i, v, so);
    }

    public int forget() {
        int former = told.size;
        told.size = 0;
        return former;
    }

    public int rows(int k, int l, int what) {
        if (!isKnown(k, l) || (what != 0 && what != 1)) {
            return NONE;
        }
        told.search(going.standing, k, l, 0);
        if (what == 0) {
            return told.found;
        }
        return told.found == 0 ? NOT_THERE : told.first;
    }

    public int listen(int k, int l, int v) {
        if (!isKnown(k, l) || v < 0 || v > SLOPE_MOST) {
            return NONE;
        }
        told.search(going.standing, k, l, v);
        return told.found == 0 ? NOT_THERE : told.sharpest(l);
    }

    public boolean hold(int slot) {
        if (slot < 0 || slot >= SLOTS) {
            return false;
        }
        slots[slot].copyFrom(going);
        held[slot] = true;
        return true;
    }

    public boolean restore(int slot) {
        if (slot < 0 || slot >= SLOTS || !held[slot]) {
            return false;
        }
        going.copyFrom(slots[slot]);
        past.size = 0;
        game.lay(text, going.left, going.right);
        return true;
    }

    public int count(int what) {
        switch (what) {
            case 0:
                return text.speakers;
            case 1:
                return text.words;
            case 2:
                return slopeOf(going.standing);
            case 3:
                return turnOf(going.standing);
            case 4:
                return orNotThere(lastOf(going.standing));
            case 5:
                return orNotThere(going.left);
            case 6:
                return orNotThere(going.right);
            case 7:
                return going.minute;
            case 8:
                return tokens.length;
            case 9:
                return past.size;
            case 10:
                return told.size;
            case 11:
                return heldSlots();
            case 12:
                return going.paid;
            case 13:
                return sayable();
            default:
                return NONE;
        }
    }

    private void beginAnew() {
        going.begin(text);
        past.size = 0;
        told.size = 0;
        for (int i = 0; i < SLOTS; i++) {
            held[i] = false;
        }
        Arrays.fill(calms, NONE);
        game.lift();
        game.lay(text, going.left, going.right);
    }

    private int takeTurn(int move) {
        game.open(going.standing);
        int then = game.after(going.standing, move, ALL_WORDS);
        if (then == NONE) {
            return NONE;
        }
        past.keep(going);
        going.standing = then;
        return slopeOf(then);
    }

    private int sayable() {
        game.open(going.standing);
        return game.can[going.standing];
    }

    private boolean areTwo(int left, int right) {
        return text.hasSpeaker(left) && text.hasSpeaker(right) && left != right;
    }

    private boolean isKnown(int k, int l) {
        return k >= 0 && k <= told.size && l >= 1 && l <= ROW_MOST;
    }

    private int calmOf(int left, int right) {
        int at = left * SPEAKERS_MOST + right;
        if (calms[at] == NONE) {
            game.lay(text, left, right);
            calms[at] = forecast.foresee(text.evenStanding(), ALL_WORDS);
            game.lay(text, going.left, going.right);
        }
        return calms[at];
    }

    private int heldSlots() {
        int number = 0;
        for (int i = 0; i < SLOTS; i++) {
            if (held[i]) {
                number++;
            }
        }
        return number;
    }

    private static int orNotThere(int number) {
        return number < 0 ? NOT_THERE : number;
    }

    private static int standingOf(int slope, int turn, int last) {
        return (slope * 2 + turn) * LASTS + last + 1;
    }

    private static int slopeOf(int standing) {
        return standing / (2 * LASTS);
    }

    private static int turnOf(int standing) {
        return standing / LASTS % 2;
    }

    /** The last word, NONE if there is none. */
    private static int lastOf(int standing) {
        return standing % LASTS - 1;
    }

    private static boolean isAwake(int standing) {
        int slope = slopeOf(standing);
        return slope <= 0 || slope >= SLOPE_MOST;
    }

    private static int leanOf(int standing) {
        return Math.abs(slopeOf(standing) - LEVEL);
    }

    private static int within(int number, int most) {
        if (number < 0) {
            return 0;
        }
        return number > most ? most : number;
    }

    private static int lot(int n, int seed, int which) {
        if (n < 1) {
            return 0;
        }
        int h = stir(stir(seed, 199), which);
        return (h >>> 1) % n;
    }

    private static int stir(int h, int by) {
        int stirred = (h ^ by) * 1103515245 + 12345;
        return stirred ^ stirred >>> 15;
    }

    /** The tape and the tokens on it. */
    private static final class Tokens {
        static final int SPEAKER = 0;
        static final int WORD = 1;
        static final int PAIR = 2;
        static final int FIRST_LAW = 3;
        static final int TILT = 7;
        static final int SEED = 8;
        static final int IF = 9;
        static final int THEN = 10;
        static final int ELSE = 11;
        static final int FIRST_VAR = 12;
        static final int LAST_VAR = 20;
        static final int NAME = 21;
        static final int INT = 22;
        static final int SEMICOLON = 23;
        static final int EQUALS = 24;
        static final int PLUS = 25;
        static final int MINUS = 26;
        static final int TIMES = 27;
        static final int OVER = 28;
        static final int LESS = 29;
        static final int OPEN = 30;
        static final int CLOSE = 31;
        static final int END = 32;
        static final int NO_TOKEN = 33;

        static final int NAME_MOST = 8;
        static final int INT_MOST = 4;
        static final String SIGNS = ";=+-*/<()";
        /** Eight letters each, in the order of the numbers above. */
        static final String QUOTED = "speaker word    pair    pushes  wages   rests   bars    tilt    seed    if      then    else    force   tongue  slope   last    side    which   other   words   same    ";

        final byte[] tape = new byte[TAPE_MOST];
        int length;
        final int[] kinds = new int[TOKENS_MOST + 2];
        final int[] places = new int[TOKENS_MOST + 2];
        /** An INT's number, or a NAME as a number that no other NAME has. */
        final long[] values = new long[TOKENS_MOST + 2];
        int size;

        void append(int four) {
            for (int shift = 24; shift >= 0 && length < TAPE_MOST; shift -= 8) {
                tape[length] = (byte) (four >>> shift);
                length++;
            }
        }

        /** One token more than a text may have is enough to find that it has too many. */
        void scan() {
            size = 0;
            int at = afterBlanks(0);
            for (int i = 0; i <= TOKENS_MOST && at < length; i++) {
                int end = endOf(at);
                int kind = kindOf(at, end);
                put(kind, at, valueOf(at, end));
                if (kind == NO_TOKEN) {
                    return;
                }
                at = afterBlanks(end);
            }
            if (at >= length) {
                put(END, length, 0);
            }
        }

        private void put(int kind, int place, long value) {
            if (size < kinds.length) {
                kinds[size] = kind;
                places[size] = place;
                values[size] = value;
                size++;
            }
        }

        private int afterBlanks(int from) {
            int at = from;
            while (at < length && isBlank(tape[at])) {
                at++;
            }
            return at;
        }

        private int endOf(int from) {
            int end = from + 1;
            if (isLetter(tape[from])) {
                while (end < length && isLetter(tape[end])) {
                    end++;
                }
            } else if (isDigit(tape[from])) {
                while (end < length && isDigit(tape[end])) {
                    end++;
                }
            }
            return end;
        }

        private int kindOf(int from, int end) {
            if (isLetter(tape[from])) {
                return end - from > NAME_MOST ? NO_TOKEN : kindOfLetters(from, end);
            }
            if (isDigit(tape[from])) {
                return end - from > INT_MOST ? NO_TOKEN : INT;
            }
            int sign = SIGNS.indexOf((char) (tape[from] & 255));
            return sign < 0 ? NO_TOKEN : SEMICOLON + sign;
        }

        private int kindOfLetters(int from, int end) {
            for (int quoted = 0; quoted <= LAST_VAR; quoted++) {
                if (isQuoted(quoted, from, end)) {
                    return quoted;
                }
            }
            return NAME;
        }

        private boolean isQuoted(int quoted, int from, int end) {
            for (int i = 0; i < NAME_MOST; i++) {
                int sign = from + i < end ? tape[from + i] : ' ';
                if (QUOTED.charAt(quoted * NAME_MOST + i) != sign) {
                    return false;
                }
            }
            return true;
        }

        private long valueOf(int from, int end) {
            long value = 0;
            for (int i = from; i < end && i - from < NAME_MOST; i++) {
                value = isDigit(tape[i]) ? value * 10 + tape[i] - '0' : value * 27 + tape[i] - 'a' + 1;
            }
            return value;
        }

        private static boolean isBlank(int sign) {
            return sign == 9 || sign == 10 || sign == 13 || sign == 32;
        }

        private static boolean isLetter(int sign) {
            return sign >= 'a' && sign <= 'z';
        }

        private static boolean isDigit(int sign) {
            return sign >= '0' && sign <= '9';
        }
    }

    /** Goes through the tokens once; what the text tells goes into a text that is not in use yet. */
    private static final class Reader {
        static final int SYNTAX = 1;
        static final int ROOM = 2;
        static final int TWICE = 3;
        static final int NO_NAME = 4;
        static final int WRONG = 5;
        static final int IFS_MOST = 4;
        static final int NESTED_MOST = 6;
        static final int SEED_MOST = 9999;

        final Tokens tokens;
        final long[] speakerNames = new long[SPEAKERS_MOST];
        final long[] wordNames = new long[WORDS_MOST];
        Text text;
        int at;
        int fault;
        int place;
        /** The first fault that counts only if there is no SYNTAX and no ROOM anywhere. */
        int laterFault;
        int laterPlace;

        Reader(Tokens tokens) {
            this.tokens = tokens;
        }

        int readInto(Text fresh) {
            text = fresh;
            text.clear();
            at = 0;
            fault = 0;
            place = NONE;
            laterFault = 0;
            tokens.scan();
            for (int tells = 0; tells <= TOKENS_MOST && fault == 0 && kind() != Tokens.END; tells++) {
                switch (kind()) {
                    case Tokens.SPEAKER:
                        tellSpeaker();
                        break;
                    case Tokens.WORD:
                        tellWord();
                        break;
                    case Tokens.PAIR:
                        tellPair();
                        break;
                    case Tokens.TILT:
                        text.tilt = tellNumber(Tokens.TILT, 1, SLOPE_MOST - 1);
                        break;
                    case Tokens.SEED:
                        text.seed = tellNumber(Tokens.SEED, 0, SEED_MOST);
                        break;
                    default:
                        tellLaw();
                }
            }
            conclude();
            return fault;
        }

        /** No token is taken behind a fault, so the place is where the reading stands. */
        private void conclude() {
            if (fault != 0) {
                place = placeNow();
            } else if (laterFault != 0) {
                fault = laterFault;
                place = laterPlace;
            }
        }

        private void tellSpeaker() {
            if (text.speakers >= SPEAKERS_MOST) {
                fail(ROOM);
                return;
            }
            take(Tokens.SPEAKER);
            long name = takeNewName();
            int tongue = takeInt(0, DIGIT_MOST);
            take(Tokens.SEMICOLON);
            speakerNames[text.speakers] = name;
            text.tongues[text.speakers] = tongue;
            text.speakers++;
        }

        private void tellWord() {
            if (text.words >= WORDS_MOST) {
                fail(ROOM);
                return;
            }
            take(Tokens.WORD);
            long name = takeNewName();
            int force = takeInt(0, DIGIT_MOST);
            take(Tokens.SEMICOLON);
            wordNames[text.words] = name;
            text.forces[text.words] = force;
            text.words++;
        }

        private void tellPair() {
            take(Tokens.PAIR);
            text.left = takeSpeaker(NONE);
            text.right = takeSpeaker(text.left);
            take(Tokens.SEMICOLON);
        }

        private int tellNumber(int kind, int least, int most) {
            take(kind);
            int number = takeInt(least, most);
            take(Tokens.SEMICOLON);
            return number;
        }

        private void tellLaw() {
            int law = kind() - Tokens.FIRST_LAW;
            if (law < 0 || law >= LAWS) {
                fail(SYNTAX);
                return;
            }
            int start = text.laws.size;
            take(Tokens.FIRST_LAW + law);
            take(Tokens.EQUALS);
            for (int ifs = 0; ifs <= IFS_MOST && kind() == Tokens.IF; ifs++) {
                if (ifs == IFS_MOST) {
                    fail(ROOM);
                }
                take(Tokens.IF);
                sum(0);
                take(Tokens.LESS);
                sum(0);
                take(Tokens.THEN);
                text.laws.emit(Laws.UNLESS_LESS_GO);
                int hole = text.laws.size;
                text.laws.emit(0);
                sum(0);
                take(Tokens.ELSE);
                text.laws.emit(Laws.DONE);
                text.laws.fill(hole, text.laws.size);
            }
            sum(0);
            take(Tokens.SEMICOLON);
            text.laws.emit(Laws.DONE);
            text.laws.starts[law] = start;
        }

        private void sum(int nested) {
            product(nested);
            for (int i = 0; i < TOKENS_MOST && (kind() == Tokens.PLUS || kind() == Tokens.MINUS); i++) {
                int sign = kind();
                take(sign);
                product(nested);
                text.laws.emit(sign == Tokens.PLUS ? Laws.ADD : Laws.SUBTRACT);
            }
        }

        private void product(int nested) {
            unit(nested);
            for (int i = 0; i < TOKENS_MOST && (kind() == Tokens.TIMES || kind() == Tokens.OVER); i++) {
                int sign = kind();
                take(sign);
                unit(nested);
                text.laws.emit(sign == Tokens.TIMES ? Laws.MULTIPLY : Laws.DIVIDE);
            }
        }

        private void unit(int nested) {
            int kind = kind();
            if (kind == Tokens.OPEN) {
                if (nested >= NESTED_MOST) {
                    fail(ROOM);
                    return;
                }
                take(Tokens.OPEN);
                sum(nested + 1);
                take(Tokens.CLOSE);
            } else if (kind >= Tokens.FIRST_VAR && kind <= Tokens.LAST_VAR) {
                take(kind);
                text.laws.emit(Laws.FIRST_VAR + kind - Tokens.FIRST_VAR);
            } else {
                int number = (int) value();
                take(Tokens.INT);
                text.laws.emit(number);
            }
        }

        private long takeNewName() {
            long name = value();
            int where = placeNow();
            if (take(Tokens.NAME) && isTold(name)) {
                note(TWICE, where);
            }
            return name;
        }

        private int takeInt(int least, int most) {
            int number = (int) value();
            int where = placeNow();
            if (take(Tokens.INT) && (number < least || number > most)) {
                note(WRONG, where);
            }
            return number;
        }

        private int takeSpeaker(int unlike) {
            int speaker = speakerNamed(value());
            int where = placeNow();
            if (take(Tokens.NAME)) {
                if (speaker == NONE) {
                    note(NO_NAME, where);
                } else if (speaker == unlike) {
                    note(TWICE, where);
                }
            }
            return speaker;
        }

        private boolean isTold(long name) {
            for (int word = 0; word < text.words; word++) {
                if (wordNames[word] == name) {
                    return true;
                }
            }
            return speakerNamed(name) != NONE;
        }

        private int speakerNamed(long name) {
            for (int speaker = 0; speaker < text.speakers; speaker++) {
                if (speakerNames[speaker] == name) {
                    return speaker;
                }
            }
            return NONE;
        }

        /** SYNTAX is looked at ahead of ROOM: of one place it is the lesser fault. */
        private boolean take(int kind) {
            if (fault != 0) {
                return false;
            }
            if (kind() != kind) {
                fail(SYNTAX);
                return false;
            }
            if (at >= TOKENS_MOST) {
                fail(ROOM);
                return false;
            }
            at++;
            return true;
        }

        private void fail(int number) {
            if (fault == 0) {
                fault = number;
            }
        }

        private void note(int number, int where) {
            if (laterFault == 0) {
                laterFault = number;
                laterPlace = where;
            }
        }

        /** Nothing goes on behind a fault. */
        private int kind() {
            return fault != 0 || at >= tokens.size ? Tokens.END : tokens.kinds[at];
        }

        private int placeNow() {
            return at < tokens.size ? tokens.places[at] : tokens.length;
        }

        private long value() {
            return at < tokens.size ? tokens.values[at] : 0;
        }
    }

    /** The laws of a text, each as a row of steps over a stack. */
    private static final class Laws {
        /** Steps below this one are numbers. */
        static final int FIRST_VAR = 10000;
        static final int FORCE = 0;
        static final int TONGUE = 1;
        static final int SLOPE = 2;
        static final int LAST = 3;
        static final int SIDE = 4;
        static final int WHICH = 5;
        static final int OTHER = 6;
        static final int WORDS = 7;
        static final int SAME = 8;
        static final int VARS = 9;
        static final int ADD = 20000;
        static final int SUBTRACT = 20001;
        static final int MULTIPLY = 20002;
        static final int DIVIDE = 20003;
        static final int UNLESS_LESS_GO = 20004;
        static final int DONE = 20005;
        /** Six brackets within one another need sixteen. */
        static final int STACK = 24;

        /** No token makes more than one step, but for 'then', and each of these has an 'if' and a '<' that make none. */
        final int[] steps = new int[TOKENS_MOST + 1];
        int size;
        final int[] starts = new int[LAWS];
        final int[] vars = new int[VARS];
        final int[] stack = new int[STACK];

        void clear() {
            size = 0;
            Arrays.fill(starts, NONE);
        }

        void emit(int step) {
            if (size < steps.length) {
                steps[size] = step;
                size++;
            }
        }

        void fill(int hole, int step) {
            if (hole < steps.length) {
                steps[hole] = step;
            }
        }

        /** What a law tells of the vars as they stand. */
        int value(int law) {
            int at = starts[law];
            if (at < 0) {
                return untold(law);
            }
            int top = 0;
            for (int i = 0; i < steps.length && at < size; i++) {
                int step = steps[at];
                at++;
                if (step == DONE) {
                    return top < 1 ? 0 : stack[top - 1];
                }
                if (step < ADD) {
                    if (top >= STACK) {
                        return 0;
                    }
                    stack[top] = step < FIRST_VAR ? step : vars[step - FIRST_VAR];
                    top++;
                    continue;
                }
                if (top < 2 || at >= size) {
                    return 0;
                }
                int a = stack[top - 2];
                int b = stack[top - 1];
                if (step == UNLESS_LESS_GO) {
                    top -= 2;
                    at = a < b ? at + 1 : steps[at];
                    continue;
                }
                if (step == DIVIDE && b == 0) {
                    return 0;
                }
                top--;
                stack[top - 1] = reckon(step, a, b);
            }
            return 0;
        }

        private int untold(int law) {
            if (law == PUSHES) {
                return vars[FORCE];
            }
            return law == WAGES ? vars[TONGUE] : 0;
        }

        private static int reckon(int step, int a, int b) {
            switch (step) {
                case ADD:
                    return a + b;
                case SUBTRACT:
                    return a - b;
                case MULTIPLY:
                    return a * b;
                default:
                    return b == 0 ? 0 : a / b;
            }
        }
    }

    /** What a text tells. */
    private static final class Text {
        final int[] tongues = new int[SPEAKERS_MOST];
        final int[] forces = new int[WORDS_MOST];
        final Laws laws = new Laws();
        int speakers;
        int words;
        int left;
        int right;
        int tilt;
        int seed;

        Text() {
            clear();
        }

        void clear() {
            laws.clear();
            speakers = 0;
            words = 0;
            left = NONE;
            right = NONE;
            tilt = LEVEL;
            seed = 0;
        }

        boolean hasSpeaker(int speaker) {
            return speaker >= 0 && speaker < speakers;
        }

        boolean hasWord(int word) {
            return word >= 0 && word < words;
        }

        int evenStanding() {
            return standingOf(tilt, LEFT, NONE);
        }

        int wagesOfBoth(int left, int right) {
            int ofLeft = lawOf(WAGES, left, right, standingOf(tilt, LEFT, NONE), NONE);
            int ofRight = lawOf(WAGES, left, right, standingOf(tilt, RIGHT, NONE), NONE);
            return within(ofLeft, WAGES_MOST) + within(ofRight, WAGES_MOST);
        }

        /** Of the one of the two whose turn it is in the standing, and of a word (NONE: of no word). */
        int lawOf(int law, int left, int right, int standing, int word) {
            boolean onLeft = turnOf(standing) == LEFT;
            int last = lastOf(standing);
            boolean ofWord = hasWord(word);
            int[] vars = laws.vars;
            vars[Laws.FORCE] = ofWord ? forces[word] : 0;
            vars[Laws.TONGUE] = tongueOf(onLeft ? left : right);
            vars[Laws.SLOPE] = slopeOf(standing);
            vars[Laws.LAST] = last + 1;
            vars[Laws.SIDE] = onLeft ? LEFT : RIGHT;
            vars[Laws.WHICH] = ofWord ? word : 0;
            vars[Laws.OTHER] = tongueOf(onLeft ? right : left);
            vars[Laws.WORDS] = words;
            vars[Laws.SAME] = ofWord && hasWord(last) && forces[last] == forces[word] ? 1 : 0;
            return laws.value(law);
        }

        private int tongueOf(int speaker) {
            return hasSpeaker(speaker) ? tongues[speaker] : 0;
        }
    }

    /** All that goes on, but for the tape and what is told. */
    private static final class Going {
        int standing;
        int left;
        int right;
        int minute;
        int paid;
        final int[] hired = new int[SPEAKERS_MOST];

        void begin(Text text) {
            standing = text.evenStanding();
            left = text.left;
            right = text.right;
            minute = 0;
            paid = 0;
            Arrays.fill(hired, 0);
        }

        void copyFrom(Going that) {
            standing = that.standing;
            left = that.left;
            right = that.right;
            minute = that.minute;
            paid = that.paid;
            System.arraycopy(that.hired, 0, hired, 0, SPEAKERS_MOST);
        }
    }

    /** How it was ahead of each of the last things done, in a ring. */
    private static final class Past {
        final Going[] kept = new Going[UNDO_MOST];
        int next;
        int size;

        Past() {
            for (int i = 0; i < UNDO_MOST; i++) {
                kept[i] = new Going();
            }
        }

        void keep(Going going) {
            kept[next].copyFrom(going);
            next = (next + 1) % UNDO_MOST;
            size = Math.min(size + 1, UNDO_MOST);
        }

        boolean takeBack(Going going) {
            if (size == 0) {
                return false;
            }
            next = (next + UNDO_MOST - 1) % UNDO_MOST;
            size--;
            going.copyFrom(kept[next]);
            return true;
        }
    }

    /** Where each turn leads, for one pair; a standing is worked out when it is first opened. */
    private static final class Game {
        static final int NOT_OPEN = -1;

        Text text;
        int left;
        int right;
        /** Another pair or text, another number: what was reckoned from the one ahead is void. */
        int laying;
        final int[] can = new int[STANDINGS];
        final int[] nexts = new int[STANDINGS * MOVES];

        /** With another text even the same pair must be laid anew. */
        void lift() {
            text = null;
        }

        void lay(Text text, int left, int right) {
            if (this.text != null && this.left == left && this.right == right) {
                return;
            }
            this.text = text;
            this.left = left;
            this.right = right;
            laying++;
            Arrays.fill(can, NOT_OPEN);
        }

        void open(int standing) {
            if (can[standing] != NOT_OPEN) {
                return;
            }
            can[standing] = 0;
            int row = standing * MOVES;
            nexts[row + PASSING] = NONE;
            if (!hasPair() || isAwake(standing)) {
                return;
            }
            int last = lastOf(standing);
            for (int word = 0; word < text.words; word++) {
                if (word != last && text.lawOf(BARS, left, right, standing, word) <= 0) {
                    int pushes = text.lawOf(PUSHES, left, right, standing, word);
                    can[standing] |= 1 << word;
                    nexts[row + word] = pushed(standing, within(pushes, DIGIT_MOST), word);
                }
            }
            int rests = text.lawOf(RESTS, left, right, standing, NONE);
            nexts[row + PASSING] = rested(standing, within(rests, DIGIT_MOST));
        }

        /** NONE if the turn can't be taken; the standing has been opened. */
        int after(int standing, int move, int without) {
            int words = can[standing] & ~without;
            boolean may = move == PASSING ? words == 0 : (words >> move & 1) == 1;
            return may ? nexts[standing * MOVES + move] : NONE;
        }

        int pushesOf(int standing, int word) {
            return hasPair() ? within(text.lawOf(PUSHES, left, right, standing, word), DIGIT_MOST) : 0;
        }

        boolean isBarred(int standing, int word) {
            return hasPair() && text.lawOf(BARS, left, right, standing, word) > 0;
        }

        int afterMinutes(int from, int minute, int seed, int n) {
            int standing = from;
            for (int i = 0; i < n; i++) {
                open(standing);
                int move = moveByLot(can[standing], seed, minute + i);
                int then = after(standing, move, ALL_WORDS);
                if (then == NONE) {
                    return standing;
                }
                standing = then;
            }
            return standing;
        }

        private static int moveByLot(int words, int seed, int minute) {
            int ahead = lot(Integer.bitCount(words), seed, minute);
            for (int word = 0; word < WORDS_MOST; word++) {
                if ((words >> word & 1) == 1) {
                    if (ahead == 0) {
                        return word;
                    }
                    ahead--;
                }
            }
            return PASSING;
        }

        private boolean hasPair() {
            return text != null && left >= 0 && right >= 0;
        }

        private static int pushed(int standing, int by, int word) {
            boolean onLeft = turnOf(standing) == LEFT;
            int slope = slopeOf(standing) + (onLeft ? by : -by);
            return standingOf(within(slope, SLOPE_MOST), onLeft ? RIGHT : LEFT, word);
        }

        private static int rested(int standing, int by) {
            int slope = slopeOf(standing);
            int calmer = slope > LEVEL ? Math.max(LEVEL, slope - by) : Math.min(LEVEL, slope + by);
            return standingOf(calmer, turnOf(standing) == LEFT ? RIGHT : LEFT, NONE);
        }
    }

    /** Which standings can be come to from one, and who wins in each of them. */
    private static final class Forecast {
        static final int NOT_COME_TO = -1;
        static final int NOT_FOUND = -1;

        final Game game;
        final int[] list = new int[STANDINGS];
        int size;
        final int[] depths = new int[STANDINGS];
        final int[] winners = new int[STANDINGS];
        final int[] turns = new int[STANDINGS];
        int without;
        int laying;
        boolean settled;

        Forecast(Game game) {
            this.game = game;
        }

        /** Who wins; what is known already from an earlier call is not reckoned again. */
        int foresee(int from, int without) {
            boolean known = settled && laying == game.laying && this.without == without;
            if (!known || depths[from] == NOT_COME_TO) {
                spread(from, without);
                settle();
            }
            return winners[from];
        }

        /** The list holds the standings by the fewest turns to them. */
        void spread(int from, int without) {
            settled = false;
            laying = game.laying;
            this.without = without;
            Arrays.fill(depths, NOT_COME_TO);
            list[0] = from;
            size = 1;
            depths[from] = 0;
            for (int i = 0; i < size && i < STANDINGS; i++) {
                int standing = list[i];
                game.open(standing);
                for (int move = 0; move < MOVES; move++) {
                    int then = game.after(standing, move, without);
                    if (then != NONE && depths[then] == NOT_COME_TO && size < STANDINGS) {
                        depths[then] = depths[standing] + 1;
                        list[size] = then;
                        size++;
                    }
                }
            }
        }

        int slopeBits() {
            int bits = 0;
            for (int i = 0; i < size; i++) {
                bits |= 1 << slopeOf(list[i]);
            }
            return bits;
        }

        int shortestRing(int from) {
            spread(from, ALL_WORDS);
            for (int i = 0; i < size; i++) {
                for (int move = 0; move < MOVES; move++) {
                    if (game.after(list[i], move, ALL_WORDS) == from) {
                        return depths[list[i]] + 1;
                    }
                }
            }
            return NOT_THERE;
        }

        /** Looks at each standing again until nothing new is found; one that never is can go on for ever. */
        int longestAsleep(int from, int most) {
            if (isAwake(from)) {
                return 0;
            }
            spread(from, ALL_WORDS);
            for (int i = 0; i < size; i++) {
                turns[list[i]] = NOT_FOUND;
            }
            boolean found = true;
            for (int round = 0; round < STANDINGS && found; round++) {
                found = false;
                for (int i = size - 1; i >= 0; i--) {
                    int standing = list[i];
                    if (turns[standing] == NOT_FOUND) {
                        turns[standing] = asleepTurns(standing);
                        found |= turns[standing] != NOT_FOUND;
                    }
                }
            }
            return turns[from] == NOT_FOUND ? most : Math.min(most, turns[from]);
        }

        private int asleepTurns(int standing) {
            int longest = 0;
            for (int move = 0; move < MOVES; move++) {
                int then = game.after(standing, move, ALL_WORDS);
                if (then != NONE && !isAwake(then)) {
                    if (turns[then] == NOT_FOUND) {
                        return NOT_FOUND;
                    }
                    longest = Math.max(longest, turns[then] + 1);
                }
            }
            return longest;
        }

        int bestMove(int standing) {
            int mover = turnOf(standing) == LEFT ? LEFT_WINS : RIGHT_WINS;
            foresee(standing, ALL_WORDS);
            int best = NOT_THERE;
            int bestWorth = 0;
            for (int move = 0; move < MOVES; move++) {
                int then = game.after(standing, move, ALL_WORDS);
                if (then != NONE) {
                    int worth = worthOf(then, mover);
                    if (best == NOT_THERE || worth > bestWorth) {
                        best = move;
                        bestWorth = worth;
                    }
                }
            }
            return best;
        }

        /** Sooner wins above later ones, above neither, above later losses, above sooner ones. */
        private int worthOf(int standing, int mover) {
            if (winners[standing] == 0) {
                return 0;
            }
            int far = STANDINGS + 1 - turns[standing];
            return winners[standing] == mover ? far : -far;
        }

        /** Round by round: what is won within as many turns as rounds; an empty round is the last. */
        private void settle() {
            for (int i = 0; i < size; i++) {
                int slope = slopeOf(list[i]);
                turns[list[i]] = 0;
                winners[list[i]] = slope == SLOPE_MOST ? LEFT_WINS : slope == 0 ? RIGHT_WINS : 0;
            }
            boolean found = true;
            for (int round = 1; round <= STANDINGS && found; round++) {
                found = false;
                for (int i = 0; i < size; i++) {
                    if (winners[list[i]] == 0 && decide(list[i], round)) {
                        found = true;
                    }
                }
            }
            settled = true;
        }

        /** Only what earlier rounds have found counts, or the turns would come out too few. */
        private boolean decide(int standing, int round) {
            int mover = turnOf(standing) == LEFT ? LEFT_WINS : RIGHT_WINS;
            int winner = LEFT_WINS + RIGHT_WINS - mover;
            boolean any = false;
            for (int move = 0; move < MOVES; move++) {
                int then = game.after(standing, move, without);
                if (then == NONE) {
                    continue;
                }
                any = true;
                boolean open = winners[then] == 0 || turns[then] >= round;
                if (!open && winners[then] == mover) {
                    winner = mover;
                    break;
                }
                if (open) {
                    winner = 0;
                }
            }
            if (!any || winner == 0) {
                return false;
            }
            winners[standing] = winner;
            turns[standing] = round;
            return true;
        }
    }

    /** Goes from each standing to all next ones at once, turn by turn. */
    private static final class Walk {
        /** A lean that none has: not come to. */
        static final int FAR = 99;

        final Game game;
        int[] here = new int[STANDINGS];
        int[] there = new int[STANDINGS];
        /** Rows that woke the child by the latest turn. */
        int woken;

        Walk(Game game) {
            this.game = game;
        }

        int leastLean(int from, int n) {
            if (isAwake(from)) {
                return NOT_THERE;
            }
            int lean = leanOf(from);
            start(from, lean, FAR);
            for (int taken = 0; taken < n && lean != FAR; taken++) {
                lean = leanOn();
            }
            return lean == FAR ? NOT_THERE : lean;
        }

        int asleepRows(int from, int n) {
            if (isAwake(from)) {
                return 0;
            }
            start(from, 1, 0);
            for (int taken = 0; taken < n; taken++) {
                countOn();
            }
            int sum = 0;
            for (int standing = 0; standing < STANDINGS; standing++) {
                sum += here[standing];
            }
            return sum;
        }

        int wakingRows(int from, int n) {
            start(from, 1, 0);
            int sum = 0;
            for (int taken = 0; taken < n; taken++) {
                countOn();
                sum += woken;
            }
            return sum;
        }

        private void start(int from, int value, int empty) {
            Arrays.fill(here, empty);
            here[from] = value;
        }

        /** One turn more; the least of the farthest leans, over all rows that end anywhere. */
        private int leanOn() {
            Arrays.fill(there, FAR);
            int least = FAR;
            for (int standing = 0; standing < STANDINGS; standing++) {
                if (here[standing] == FAR) {
                    continue;
                }
                game.open(standing);
                for (int move = 0; move < MOVES; move++) {
                    int then = game.after(standing, move, ALL_WORDS);
                    if (then != NONE && !isAwake(then)) {
                        int lean = Math.max(here[standing], leanOf(then));
                        there[then] = Math.min(there[then], lean);
                        least = Math.min(least, lean);
                    }
                }
            }
            swap();
            return least;
        }

        private void countOn() {
            Arrays.fill(there, 0);
            woken = 0;
            for (int standing = 0; standing < STANDINGS; standing++) {
                if (here[standing] == 0) {
                    continue;
                }
                game.open(standing);
                for (int move = 0; move < MOVES; move++) {
                    int then = game.after(standing, move, ALL_WORDS);
                    if (then == NONE) {
                        continue;
                    }
                    if (isAwake(then)) {
                        woken += here[standing];
                    } else {
                        there[then] += here[standing];
                    }
                }
            }
            swap();
        }

        private void swap() {
            int[] former = here;
            here = there;
            there = former;
        }
    }

    /** What is told of turns to come, and the rows of turns that fit. */
    private static final class Told {
        final Game game;
        final int[] behind = new int[TOLD_MOST];
        final int[] bounds = new int[TOLD_MOST];
        final boolean[] so = new boolean[TOLD_MOST];
        int size;

        int known;
        int length;
        int by;
        int found;
        int first;
        final int[] path = new int[ROW_MOST + 1];
        /** Of the rows that fit, how many have the slope asked for behind so many turns. */
        final int[] reaching = new int[ROW_MOST + 1];

        Told(Game game) {
            this.game = game;
        }

        int add(int turns, int bound, boolean isSo) {
            if (size >= TOLD_MOST) {
                return NONE;
            }
            behind[size] = turns;
            bounds[size] = bound;
            so[size] = isSo;
            size++;
            return size - 1;
        }

        void search(int from, int known, int length, int by) {
            this.known = Math.min(known, size);
            this.length = Math.min(length, ROW_MOST);
            this.by = by;
            found = 0;
            first = NONE;
            Arrays.fill(reaching, 0);
            if (isWithinLength()) {
                goOn(from, 0, 0);
            }
        }

        /** Which of the turns halves best what is left. */
        int sharpest(int length) {
            int best = 1;
            int bestWorst = found + 1;
            for (int i = 1; i <= length && i <= ROW_MOST; i++) {
                int worst = Math.max(reaching[i], found - reaching[i]);
                if (worst < bestWorst) {
                    best = i;
                    bestWorst = worst;
                }
            }
            return best;
        }

        private void goOn(int standing, int depth, int code) {
            if (depth >= length) {
                takeIn(code);
                return;
            }
            game.open(standing);
            for (int move = 0; move < MOVES; move++) {
                int then = game.after(standing, move, ALL_WORDS);
                if (then != NONE && agrees(depth + 1, slopeOf(then))) {
                    path[depth + 1] = slopeOf(then);
                    goOn(then, depth + 1, code * MOVES + move);
                }
            }
        }

        private void takeIn(int code) {
            if (found == 0) {
                first = code;
            }
            found++;
            for (int i = 1; i <= length; i++) {
                if (path[i] >= by) {
                    reaching[i]++;
                }
            }
        }

        private boolean isWithinLength() {
            for (int i = 0; i < known; i++) {
                if (behind[i] > length) {
                    return false;
                }
            }
            return true;
        }

        private boolean agrees(int turns, int slope) {
            for (int i = 0; i < known; i++) {
                if (behind[i] == turns && (slope >= bounds[i]) != so[i]) {
                    return false;
                }
            }
            return true;
        }
    }

    /** The most couples; the first found of as many is the one asked for. */
    private static final class Matching {
        final boolean[] allowed = new boolean[SPEAKERS_MOST * SPEAKERS_MOST];
        final int[] trial = new int[SPEAKERS_MOST];
        final int[] mates = new int[SPEAKERS_MOST];
        int speakers;
        int most;

        void begin(int speakers) {
            this.speakers = Math.min(speakers, SPEAKERS_MOST);
            most = NONE;
            Arrays.fill(trial, NOT_THERE);
        }

        void allow(int left, int right, boolean may) {
            allowed[left * SPEAKERS_MOST + right] = may;
        }

        void match() {
            matchFrom(0, 0);
        }

        private void matchFrom(int speaker, int pairs) {
            if (speaker >= speakers) {
                if (pairs > most) {
                    most = pairs;
                    System.arraycopy(trial, 0, mates, 0, SPEAKERS_MOST);
                }
                return;
            }
            if (trial[speaker] == NOT_THERE) {
                for (int mate = speaker + 1; mate < speakers; mate++) {
                    if (trial[mate] == NOT_THERE && allowed[speaker * SPEAKERS_MOST + mate]) {
                        trial[speaker] = mate;
                        trial[mate] = speaker;
                        matchFrom(speaker + 1, pairs + 1);
                        trial[mate] = NOT_THERE;
                        trial[speaker] = NOT_THERE;
                    }
                }
            }
            matchFrom(speaker + 1, pairs);
        }
    }
}
