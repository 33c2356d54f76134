/**
 * Marbled paper: a list of lines tells octaves, combs, inks and orders; the sheet that they make
 * is asked about its spots, changed by hand, and dipped.
 *
 * All rows are made in the constructor and used again, so that no later call makes any.
 */
public final class MarbledPaper {
    private static final int MOST_BYTES = 2000;
    private static final int MOST_TOKENS = 400;
    private static final int MOST_DEPTH = 8;
    private static final int MOST_LINES = 24;
    private static final int MOST_SPOTS = MOST_LINES * MOST_LINES;
    private static final int MOST_OCTAVES = 4;
    private static final int MOST_COMBS = 4;
    private static final int MOST_INKS = 5;
    private static final int MOST_ORDERS = 20;
    private static final int MOST_DIPS = 20;
    private static final int MOST_PULL = 16;
    private static final int MOST_SEED = 999;
    private static final int MOST_DRIFT = 999;
    private static final int MOST_HEIGHT = 999;
    private static final int GRADIENTS = 8;
    private static final int MOST_CELLS = 8;

    // What count() tells by these numbers.
    private static final int PATCHES = 7;
    private static final int GREATEST_HEIGHT = 10;
    private static final int CARRIED_OUT = 13;
    private static final int BYTES = 14;

    private final Tape tape;
    private final Reader reader;
    private final Plan plan;
    private final Waves waves;
    private final Sheet now;
    private final Sheet trial;
    private int errorPlace;

    public MarbledPaper() {
        Tape bytes = new Tape();
        Plan told = new Plan();
        Waves values = new Waves(told);
        tape = bytes;
        reader = new Reader(bytes);
        plan = told;
        waves = values;
        now = new Sheet(told, values);
        trial = new Sheet(told, values);
        errorPlace = -1;
    }

    // ---- the language

    public int feed(int a, int b, int c, int d, int e) throws IllegalStateException {
        if (tape.length + 20 > MOST_BYTES) {
            throw new IllegalStateException("the tape is full");
        }
        tape.append(a);
        tape.append(b);
        tape.append(c);
        tape.append(d);
        tape.append(e);
        return tape.length;
    }

    public int trim(int n) throws IllegalArgumentException {
        if (n < 0 || n > tape.length) {
            throw new IllegalArgumentException("the tape is shorter");
        }
        tape.length = n;
        return n;
    }

    public int teach() {
        int error = reader.read();
        errorPlace = reader.errorPlace;
        tape.length = 0;
        if (error == 0) {
            plan.take(reader.draft);
            waves.forget();
            now.begin();
        }
        return error;
    }

    public int errorAt() {
        return errorPlace;
    }

    public int count(int what) throws IndexOutOfBoundsException {
        if (what < 0 || what > BYTES) {
            throw new IndexOutOfBoundsException("nothing is counted so");
        }
        if (what >= PATCHES && what <= GREATEST_HEIGHT) {
            now.group();
        }
        return what == BYTES ? tape.length : now.tell(what);
    }

    // ---- spots

    public int height(int column, int row) {
        now.refresh();
        return Guard.at(now.heights, plan.spot(column, row));
    }

    public int ink(int column, int row) {
        now.refresh();
        return Guard.at(now.inks, plan.spot(column, row));
    }

    public int patch(int column, int row) {
        now.group();
        return now.patches.sizeAt(plan.spot(column, row));
    }

    public int whence(int column, int row) {
        return now.source(column, row);
    }

    public int share(int ink) throws IndexOutOfBoundsException {
        if (ink < 0 || ink > plan.inks) {
            throw new IndexOutOfBoundsException("no such ink");
        }
        now.refresh();
        return Guard.at(now.shares, ink);
    }

    // ---- octaves and combs

    public int octave(int octave, int what) throws IndexOutOfBoundsException {
        if (octave < 0 || octave >= plan.octaves || what < 0 || what > 3) {
            throw new IndexOutOfBoundsException("no such octave, or nothing that it has");
        }
        return now.tellOctave(octave, what);
    }

    public int gradient(int octave, int i, int j) throws IndexOutOfBoundsException {
        if (octave < 0 || octave >= plan.octaves) {
            throw new IndexOutOfBoundsException("no such octave");
        }
        if (i < 0 || i > MOST_CELLS || j < 0 || j > MOST_CELLS) {
            throw new IndexOutOfBoundsException("no such corner");
        }
        return waves.gradientAt(octave, Guard.at(now.seeds, octave), i, j);
    }

    public int value(int octave, int column, int row) throws IndexOutOfBoundsException {
        if (octave < 0 || octave >= plan.octaves) {
            throw new IndexOutOfBoundsException("no such octave");
        }
        int x = Guard.wrap(column, plan.columns);
        int y = Guard.wrap(row, plan.rows);
        return waves.valueAt(octave, Guard.at(now.seeds, octave), x, y);
    }

    public int comb(int comb, int what) throws IndexOutOfBoundsException {
        if (comb < 0 || comb >= plan.combs || what < 0 || what > 2) {
            throw new IndexOutOfBoundsException("no such comb, or nothing that it has");
        }
        return now.tellComb(comb, what);
    }

    public int moves(int comb, int line) throws IndexOutOfBoundsException {
        if (comb < 0 || comb >= plan.combs) {
            throw new IndexOutOfBoundsException("no such comb");
        }
        return now.shiftOf(comb, Guard.wrap(line, plan.linesOf(comb)));
    }

    // ---- by hand

    public int setPull(int comb, int pull) throws IndexOutOfBoundsException, IllegalArgumentException {
        if (comb < 0 || comb >= plan.combs) {
            throw new IndexOutOfBoundsException("no such comb");
        }
        if (pull < 0 || pull > MOST_PULL) {
            throw new IllegalArgumentException("no such pull");
        }
        int before = Guard.at(now.pulls, comb);
        now.changePull(comb, pull);
        return before;
    }

    public int setSeed(int octave, int seed) throws IndexOutOfBoundsException, IllegalArgumentException {
        if (octave < 0 || octave >= plan.octaves) {
            throw new IndexOutOfBoundsException("no such octave");
        }
        if (seed < 0 || seed > MOST_SEED) {
            throw new IllegalArgumentException("no such seed");
        }
        int before = Guard.at(now.seeds, octave);
        now.changeSeed(octave, seed);
        return before;
    }

    public int drift(int across, int down) throws IllegalArgumentException {
        if (across < -MOST_DRIFT || across > MOST_DRIFT || down < -MOST_DRIFT || down > MOST_DRIFT) {
            throw new IllegalArgumentException("too far");
        }
        now.changeDrift(across, down);
        return now.driftDown * plan.columns + now.driftAcross;
    }

    // ---- dips and what would be

    public int dip(int dips) throws IllegalArgumentException {
        if (dips < 1 || dips > MOST_DIPS) {
            throw new IllegalArgumentException("not so many dips");
        }
        int before = now.carried;
        for (int n = 0; n < dips; n++) {
            now.dipOnce();
        }
        return now.carried - before;
    }

    public int foresee(int dips, int what) throws IllegalArgumentException, IndexOutOfBoundsException {
        if (dips < 1 || dips > MOST_DIPS) {
            throw new IllegalArgumentException("not so many dips");
        }
        if (what < PATCHES || what > CARRIED_OUT) {
            throw new IndexOutOfBoundsException("nothing is foreseen so");
        }
        trial.take(now);
        for (int n = 0; n < dips; n++) {
            trial.dipOnce();
        }
        if (what <= GREATEST_HEIGHT) {
            trial.group();
        }
        return trial.tell(what);
    }

    public int until(int column, int row, int ink) throws IndexOutOfBoundsException {
        if (ink < 0 || ink > plan.inks) {
            throw new IndexOutOfBoundsException("no such ink");
        }
        int spot = plan.spot(column, row);
        trial.take(now);
        for (int dips = 0; dips <= MOST_DIPS; dips++) {
            if (dips > 0) {
                trial.dipOnce();
            }
            trial.refresh();
            if (Guard.at(trial.inks, spot) == ink) {
                return dips;
            }
        }
        return -1;
    }

    public int advise(int comb) throws IndexOutOfBoundsException {
        if (comb < 0 || comb >= plan.combs) {
            throw new IndexOutOfBoundsException("no such comb");
        }
        int best = 0;
        int fewest = MOST_SPOTS + 1;
        trial.take(now);
        for (int pull = 0; pull <= MOST_PULL; pull++) {
            trial.changePull(comb, pull);
            trial.group();
            if (trial.patches.number < fewest) {
                fewest = trial.patches.number;
                best = pull;
            }
        }
        return best;
    }

    public double mean() {
        now.refresh();
        int spots = plan.columns * plan.rows;
        int sum = 0;
        for (int spot = 0; spot < spots; spot++) {
            sum += Guard.at(now.heights, spot);
        }
        return spots > 0 ? (double) sum / (double) spots : 0.0;
    }

    public long digest() {
        now.group();
        long d = 937;
        for (int what = 0; what < BYTES; what++) {
            d = d * 31 + now.tell(what);
        }
        d = d * 31 + tape.length;
        for (int octave = 0; octave < plan.octaves; octave++) {
            for (int what = 0; what <= 3; what++) {
                d = d * 31 + now.tellOctave(octave, what);
            }
        }
        for (int comb = 0; comb < plan.combs; comb++) {
            for (int what = 0; what <= 2; what++) {
                d = d * 31 + now.tellComb(comb, what);
            }
        }
        for (int ink = 0; ink <= plan.inks; ink++) {
            d = d * 31 + Guard.at(now.shares, ink);
        }
        for (int spot = 0; spot < plan.columns * plan.rows; spot++) {
            d = d * 31 + Guard.at(now.heights, spot);
        }
        return d;
    }

    /** Rows and divisions that look before they leap: what does not fit is 0, or is left out. */
    private static final class Guard {
        static int at(int[] row, int k) {
            return row != null && k >= 0 && k < row.length ? row[k] : 0;
        }

        static void put(int[] row, int k, int x) {
            if (row != null && k >= 0 && k < row.length) {
                row[k] = x;
            }
        }

        static void copy(int[] from, int[] to) {
            if (from != null && to != null) {
                System.arraycopy(from, 0, to, 0, Math.min(from.length, to.length));
            }
        }

        /** The remainder, 0 or greater. */
        static int wrap(long n, int size) {
            return size > 0 ? (int) Math.floorMod(n, (long) size) : 0;
        }

        static int quotient(int n, int by) {
            return by == 0 ? 0 : n / by;
        }

        static int hold(int n, int least, int most) {
            return Math.max(least, Math.min(n, most));
        }
    }

    /**
     * The kinds of tokens: keywords in the order of WORDS, behind them symbols in the order of
     * SIGNS, behind them the others. An instruction bears the kind of the token that asks for it.
     */
    private static final class Kind {
        static final String WORDS = "paper by octave across down strength seed comb teeth pull ink from drift to when dip share height edge not and or min max ";
        static final String SIGNS = "()[];,+-*/<>=";
        static final int KEYWORDS = 24;

        static final int PAPER = 0;
        static final int BY = 1;
        static final int OCTAVE = 2;
        static final int ACROSS = 3;
        static final int DOWN = 4;
        static final int STRENGTH = 5;
        static final int SEED = 6;
        static final int COMB = 7;
        static final int TEETH = 8;
        static final int PULL = 9;
        static final int INK = 10;
        static final int FROM = 11;
        static final int DRIFT = 12;
        static final int TO = 13;
        static final int WHEN = 14;
        static final int DIP = 15;
        static final int SHARE = 16;
        static final int HEIGHT = 17;
        static final int EDGE = 18;
        static final int NOT = 19;
        static final int AND = 20;
        static final int OR = 21;
        static final int MIN = 22;
        static final int MAX = 23;

        static final int OPEN = 24;
        static final int CLOSE = 25;
        static final int OPEN_TEST = 26;
        static final int CLOSE_TEST = 27;
        static final int SEMICOLON = 28;
        static final int COMMA = 29;
        static final int PLUS = 30;
        static final int MINUS = 31;
        static final int TIMES = 32;
        static final int OVER = 33;
        static final int LESS = 34;
        static final int GREATER = 35;
        static final int EQUAL = 36;
        static final int LESS_OR_EQUAL = 37;
        static final int GREATER_OR_EQUAL = 38;

        static final int NAME = 39;
        static final int NUMBER = 40;
        static final int END = 41;
        static final int BAD = 42;
        static final int NEGATE = 43;
    }

    /** The bytes of the tape, and the row of tokens that they are read as. */
    private static final class Tape {
        // A word is kept as a number to this base: at most ten letters and digits fit in a long.
        private static final int WORD_BASE = 37;
        private static final int LONGEST_WORD = 10;
        private static final int LONGEST_NUMBER = 6;

        private final int[] bytes = new int[MOST_BYTES];
        private final long[] keywords = new long[Kind.KEYWORDS];
        private final int[] kinds = new int[MOST_TOKENS + 1];
        private final int[] starts = new int[MOST_TOKENS + 1];
        private final long[] contents = new long[MOST_TOKENS + 1];
        private int length;
        private int tokens;
        private int place;
        private long content;

        Tape() {
            int keyword = 0;
            long code = 0;
            for (int k = 0; k < Kind.WORDS.length(); k++) {
                char sign = Kind.WORDS.charAt(k);
                if (sign != ' ') {
                    code = code * WORD_BASE + (sign - 'a' + 1);
                } else if (keyword < keywords.length) {
                    keywords[keyword] = code;
                    keyword++;
                    code = 0;
                }
            }
        }

        void append(int four) {
            for (int shift = 24; shift >= 0; shift -= 8) {
                if (length >= 0 && length < bytes.length) {
                    bytes[length] = four >> shift & 255;
                    length++;
                }
            }
        }

        /** Reads the tape up to its end or to what is no token: that is the last token told. */
        void scan() {
            place = 0;
            tokens = 0;
            boolean more = true;
            for (int n = 0; n <= MOST_TOKENS && more; n++) {
                more = readToken();
            }
        }

        private boolean readToken() {
            while (place < length && (byteHere() == ' ' || byteHere() == '\n')) {
                place++;
            }
            int start = place;
            content = 0;
            int kind = readKind();
            if (tokens >= 0 && tokens < kinds.length && tokens < starts.length && tokens < contents.length) {
                kinds[tokens] = kind;
                starts[tokens] = start;
                contents[tokens] = content;
                tokens++;
            }
            return kind != Kind.END && kind != Kind.BAD;
        }

        private int readKind() {
            if (place >= length) {
                return Kind.END;
            }
            if (tokens >= MOST_TOKENS) {
                return Kind.BAD;
            }
            if (isLetter(byteHere())) {
                return readWord();
            }
            return isDigit(byteHere()) ? readNumber() : readSymbol();
        }

        private int readWord() {
            int start = place;
            long code = 0;
            for (; place < length && (isLetter(byteHere()) || isDigit(byteHere())); place++) {
                int sign = byteHere();
                code = code * WORD_BASE + (isLetter(sign) ? sign - 'a' + 1 : sign - '0' + 27);
            }
            if (place - start > LONGEST_WORD) {
                return Kind.BAD;
            }
            for (int k = 0; k < keywords.length; k++) {
                if (keywords[k] == code) {
                    return k;
                }
            }
            content = code;
            return Kind.NAME;
        }

        private int readNumber() {
            int start = place;
            long number = 0;
            for (; place < length && isDigit(byteHere()); place++) {
                number = number * 10 + (byteHere() - '0');
            }
            content = number;
            return place - start > LONGEST_NUMBER ? Kind.BAD : Kind.NUMBER;
        }

        private int readSymbol() {
            int sign = byteHere();
            int number = Kind.SIGNS.indexOf((char) sign);
            if (number < 0) {
                return Kind.BAD;
            }
            place++;
            if (byteHere() == '=' && (sign == '<' || sign == '>')) {
                place++;
                return sign == '<' ? Kind.LESS_OR_EQUAL : Kind.GREATER_OR_EQUAL;
            }
            return Kind.KEYWORDS + number;
        }

        private int byteHere() {
            return place >= 0 && place < length && place < bytes.length ? bytes[place] : -1;
        }

        private static boolean isLetter(int sign) {
            return sign >= 'a' && sign <= 'z';
        }

        private static boolean isDigit(int sign) {
            return sign >= '0' && sign <= '9';
        }

        int kindAt(int token) {
            return token >= 0 && token < tokens && token < kinds.length ? kinds[token] : Kind.BAD;
        }

        long contentAt(int token) {
            return token >= 0 && token < contents.length ? contents[token] : 0;
        }
    }

    /** The names of one kind, in the order in which they are told. */
    private static final class Names {
        private final long[] codes;
        private int number;

        Names(int most) {
            codes = new long[Math.max(most, 0)];
        }

        void forget() {
            number = 0;
        }

        boolean isFull() {
            return number >= codes.length;
        }

        void add(long code) {
            if (number >= 0 && number < codes.length) {
                codes[number] = code;
                number++;
            }
        }

        /** The number of the one with this name, or -1. */
        int find(long code) {
            for (int k = 0; k < number && k < codes.length; k++) {
                if (codes[k] == code) {
                    return k;
                }
            }
            return -1;
        }
    }

    /**
     * Reads the tape as a list into a draft. Error 1 ends the reading, since from then on the kind
     * of the token looked at is BAD, which goes on with nothing; of the other errors the first one
     * is kept, and counts only if no error 1 follows.
     */
    private static final class Reader {
        private final Tape tape;
        private final Plan draft = new Plan();
        private final Names octaves = new Names(MOST_OCTAVES);
        private final Names combs = new Names(MOST_COMBS);
        private final Names inks = new Names(MOST_INKS);
        private int token;
        private int kind;
        private int error;
        private int errorPlace;

        Reader(Tape bytes) {
            tape = bytes;
        }

        /** Returns 0, or the error. */
        int read() {
            tape.scan();
            draft.clear();
            octaves.forget();
            combs.forget();
            inks.forget();
            error = 0;
            errorPlace = -1;
            token = 0;
            kind = tape.kindAt(0);
            for (int lines = 0; lines < MOST_TOKENS && kind != Kind.END && kind != Kind.BAD; lines++) {
                readLine();
            }
            if (kind != Kind.END) {
                refuse();
            }
            return error;
        }

        private void readLine() {
            int first = kind;
            if (first == Kind.PAPER) {
                readPaper();
            } else if (first == Kind.OCTAVE) {
                readOctave();
            } else if (first == Kind.COMB) {
                readComb();
            } else if (first == Kind.INK) {
                readInk();
            } else {
                readOrderHead();
                readSum(0);
                draft.orders.endSum();
                if (kind == Kind.WHEN) {
                    advance();
                    readTest(0);
                } else if (first != Kind.DRIFT) {
                    refuse();
                }
                draft.orders.endTest();
            }
            expect(Kind.SEMICOLON);
        }

        private void readPaper() {
            advance();
            draft.columns = readNumber(4, MOST_LINES);
            expect(Kind.BY);
            draft.rows = readNumber(4, MOST_LINES);
        }

        private void readOctave() {
            advance();
            readNewName(octaves);
            expect(Kind.ACROSS);
            int across = readNumber(1, MOST_CELLS);
            expect(Kind.DOWN);
            int down = readNumber(1, MOST_CELLS);
            expect(Kind.STRENGTH);
            int strength = readNumber(1, 9);
            expect(Kind.SEED);
            draft.addOctave(across, down, strength, readNumber(0, MOST_SEED));
        }

        private void readComb() {
            advance();
            readNewName(combs);
            int way = readWay();
            expect(Kind.TEETH);
            int teeth = readNumber(1, 8);
            expect(Kind.PULL);
            draft.addComb(way, teeth, readNumber(0, MOST_PULL));
        }

        private void readInk() {
            advance();
            readNewName(inks);
            expect(Kind.FROM);
            draft.addInk(readNumber(draft.lowestNextLevel(), MOST_HEIGHT));
        }

        private void readOrderHead() {
            int first = kind;
            if (first != Kind.PULL && first != Kind.SEED && first != Kind.DRIFT) {
                refuse();
                return;
            }
            if (draft.orders.number >= MOST_ORDERS) {
                fault(4);
            }
            advance();
            int target = first == Kind.DRIFT ? readWay() : readKnownName(first == Kind.PULL ? combs : octaves);
            expect(first == Kind.DRIFT ? Kind.BY : Kind.TO);
            draft.orders.begin(first, target);
        }

        private void readTest(int depth) {
            readBoth(depth);
            for (int n = 0; n < MOST_TOKENS && kind == Kind.OR; n++) {
                advance();
                readBoth(depth);
                draft.orders.add(Kind.OR, 0);
            }
        }

        private void readBoth(int depth) {
            readSingle(depth);
            for (int n = 0; n < MOST_TOKENS && kind == Kind.AND; n++) {
                advance();
                readSingle(depth);
                draft.orders.add(Kind.AND, 0);
            }
        }

        private void readSingle(int depth) {
            if ((kind == Kind.NOT || kind == Kind.OPEN_TEST) && depth >= MOST_DEPTH) {
                refuse();
            } else if (kind == Kind.NOT) {
                advance();
                readSingle(depth + 1);
                draft.orders.add(Kind.NOT, 0);
            } else if (kind == Kind.OPEN_TEST) {
                advance();
                readTest(depth + 1);
                expect(Kind.CLOSE_TEST);
            } else if (kind == Kind.EDGE) {
                advance();
                draft.orders.add(Kind.EDGE, readKnownName(inks));
            } else {
                readSum(depth);
                int comparison = readComparison();
                readSum(depth);
                draft.orders.add(comparison, 0);
            }
        }

        private int readComparison() {
            int comparison = kind;
            if (comparison < Kind.LESS || comparison > Kind.GREATER_OR_EQUAL) {
                refuse();
            } else {
                advance();
            }
            return comparison;
        }

        private void readSum(int depth) {
            readProduct(depth);
            for (int n = 0; n < MOST_TOKENS && (kind == Kind.PLUS || kind == Kind.MINUS); n++) {
                int operation = kind;
                advance();
                readProduct(depth);
                draft.orders.add(operation, 0);
            }
        }

        private void readProduct(int depth) {
            readValue(depth);
            for (int n = 0; n < MOST_TOKENS && (kind == Kind.TIMES || kind == Kind.OVER); n++) {
                int operation = kind;
                advance();
                readValue(depth);
                draft.orders.add(operation, 0);
            }
        }

        private void readValue(int depth) {
            int first = kind;
            if ((first == Kind.MINUS || first == Kind.OPEN) && depth >= MOST_DEPTH) {
                refuse();
                return;
            }
            switch (first) {
                case Kind.NUMBER:
                    draft.orders.add(first, (int) tape.contentAt(token));
                    advance();
                    break;
                case Kind.DIP:
                    advance();
                    draft.orders.add(first, 0);
                    break;
                case Kind.PULL:
                case Kind.SHARE:
                case Kind.SEED:
                    advance();
                    draft.orders.add(first, readKnownName(namesBehind(first)));
                    break;
                case Kind.HEIGHT:
                case Kind.MIN:
                case Kind.MAX:
                    advance();
                    readPair(depth);
                    draft.orders.add(first, 0);
                    break;
                case Kind.MINUS:
                    advance();
                    readValue(depth + 1);
                    draft.orders.add(Kind.NEGATE, 0);
                    break;
                case Kind.OPEN:
                    advance();
                    readSum(depth + 1);
                    expect(Kind.CLOSE);
                    break;
                default:
                    refuse();
            }
        }

        private void readPair(int depth) {
            if (kind != Kind.OPEN || depth >= MOST_DEPTH) {
                refuse();
                return;
            }
            advance();
            readSum(depth + 1);
            expect(Kind.COMMA);
            readSum(depth + 1);
            expect(Kind.CLOSE);
        }

        private Names namesBehind(int keyword) {
            if (keyword == Kind.PULL) {
                return combs;
            }
            return keyword == Kind.SHARE ? inks : octaves;
        }

        private void readNewName(Names names) {
            if (kind != Kind.NAME) {
                refuse();
                return;
            }
            long name = tape.contentAt(token);
            if (names.find(name) >= 0) {
                fault(2);
            } else if (names.isFull()) {
                fault(4);
            }
            names.add(name);
            advance();
        }

        private int readKnownName(Names names) {
            if (kind != Kind.NAME) {
                refuse();
                return 0;
            }
            int found = names.find(tape.contentAt(token));
            if (found < 0) {
                fault(3);
            }
            advance();
            return found;
        }

        private int readNumber(int least, int most) {
            if (kind != Kind.NUMBER) {
                refuse();
                return least;
            }
            int number = (int) tape.contentAt(token);
            if (number < least || number > most) {
                fault(5);
            }
            advance();
            return number;
        }

        /** Returns 0 for across, 1 for down. */
        private int readWay() {
            int way = kind == Kind.DOWN ? 1 : 0;
            if (kind != Kind.ACROSS && kind != Kind.DOWN) {
                refuse();
            } else {
                advance();
            }
            return way;
        }

        private void expect(int wanted) {
            if (kind == wanted) {
                advance();
            } else {
                refuse();
            }
        }

        private void advance() {
            if (kind != Kind.END && kind != Kind.BAD) {
                token++;
                kind = tape.kindAt(token);
            }
        }

        private void refuse() {
            if (error != 1) {
                error = 1;
                errorPlace = Guard.at(tape.starts, token);
            }
            kind = Kind.BAD;
        }

        private void fault(int number) {
            if (error == 0) {
                error = number;
                errorPlace = Guard.at(tape.starts, token);
            }
        }
    }

    /**
     * Orders, each with its sum and behind it its test as instructions for a stack. More than may
     * be told go into the place of the last one: by then there is an error, and the draft is lost.
     */
    private static final class Orders {
        private final int[] kinds = new int[MOST_ORDERS];
        private final int[] targets = new int[MOST_ORDERS];
        private final int[] sums = new int[MOST_ORDERS];
        private final int[] tests = new int[MOST_ORDERS];
        private final int[] ends = new int[MOST_ORDERS];
        private final int[] looks = new int[MOST_ORDERS];
        private final int[] operations = new int[MOST_TOKENS];
        private final int[] operands = new int[MOST_TOKENS];
        private int number;
        private int length;

        void clear() {
            number = 0;
            length = 0;
        }

        void begin(int kind, int target) {
            number = Math.min(number + 1, MOST_ORDERS);
            Guard.put(kinds, number - 1, kind);
            Guard.put(targets, number - 1, target);
            Guard.put(sums, number - 1, length);
            Guard.put(looks, number - 1, 0);
        }

        void endSum() {
            Guard.put(tests, number - 1, length);
        }

        void endTest() {
            Guard.put(ends, number - 1, length);
        }

        void add(int operation, int operand) {
            Guard.put(operations, length, operation);
            Guard.put(operands, length, operand);
            length = Math.min(length + 1, MOST_TOKENS);
            if (operation == Kind.SHARE || operation == Kind.HEIGHT || operation == Kind.EDGE) {
                Guard.put(looks, number - 1, 1);
            }
        }

        /** Whether the order asks for heights or inks of spots. */
        boolean looksAtSpots(int order) {
            return Guard.at(looks, order) != 0;
        }

        void take(Orders other) {
            number = other.number;
            length = other.length;
            Guard.copy(other.kinds, kinds);
            Guard.copy(other.targets, targets);
            Guard.copy(other.sums, sums);
            Guard.copy(other.tests, tests);
            Guard.copy(other.ends, ends);
            Guard.copy(other.looks, looks);
            Guard.copy(other.operations, operations);
            Guard.copy(other.operands, operands);
        }
    }

    /** What a list tells: no dip changes it. */
    private static final class Plan {
        private final int[] across = new int[MOST_OCTAVES];
        private final int[] down = new int[MOST_OCTAVES];
        private final int[] strengths = new int[MOST_OCTAVES];
        private final int[] seeds = new int[MOST_OCTAVES];
        private final int[] ways = new int[MOST_COMBS];
        private final int[] teeth = new int[MOST_COMBS];
        private final int[] pulls = new int[MOST_COMBS];
        private final int[] levels = new int[MOST_INKS];
        private final Orders orders = new Orders();
        private int columns = 16;
        private int rows = 12;
        private int octaves;
        private int combs;
        private int inks;

        void clear() {
            columns = 16;
            rows = 12;
            octaves = 0;
            combs = 0;
            inks = 0;
            orders.clear();
        }

        void addOctave(int cellsAcross, int cellsDown, int strength, int seed) {
            Guard.put(across, octaves, cellsAcross);
            Guard.put(down, octaves, cellsDown);
            Guard.put(strengths, octaves, strength);
            Guard.put(seeds, octaves, seed);
            octaves = Math.min(octaves + 1, MOST_OCTAVES);
        }

        void addComb(int way, int teethOfIt, int pull) {
            Guard.put(ways, combs, way);
            Guard.put(teeth, combs, teethOfIt);
            Guard.put(pulls, combs, pull);
            combs = Math.min(combs + 1, MOST_COMBS);
        }

        void addInk(int level) {
            Guard.put(levels, inks, level);
            inks = Math.min(inks + 1, MOST_INKS);
        }

        int lowestNextLevel() {
            return inks == 0 ? 0 : Guard.at(levels, inks - 1) + 1;
        }

        void take(Plan other) {
            columns = other.columns;
            rows = other.rows;
            octaves = other.octaves;
            combs = other.combs;
            inks = other.inks;
            Guard.copy(other.across, across);
            Guard.copy(other.down, down);
            Guard.copy(other.strengths, strengths);
            Guard.copy(other.seeds, seeds);
            Guard.copy(other.ways, ways);
            Guard.copy(other.teeth, teeth);
            Guard.copy(other.pulls, pulls);
            Guard.copy(other.levels, levels);
            orders.take(other.orders);
        }

        int spot(int column, int row) {
            return Guard.wrap(row, rows) * columns + Guard.wrap(column, columns);
        }

        /** How many lines a comb goes over: rows, if it goes across, else columns. */
        int linesOf(int comb) {
            return Guard.at(ways, comb) == 0 ? rows : columns;
        }

        int inkOf(int height) {
            int ink = 0;
            for (int k = 0; k < inks; k++) {
                if (Guard.at(levels, k) <= height) {
                    ink++;
                }
            }
            return ink;
        }
    }

    /**
     * Gradients and values of octaves. Both go by the remainder of a seed by 8, so of each octave
     * eight sheets of values hold for all seeds, and each is reckoned when it is first needed.
     */
    private static final class Waves {
        private static final int[] ACROSS = {3, 2, 0, -2, -3, -2, 0, 2};
        private static final int[] DOWN = {0, 2, 3, 2, 0, -2, -3, -2};

        private final Plan plan;
        private final int[] values = new int[MOST_OCTAVES * GRADIENTS * MOST_SPOTS];
        private final int[] known = new int[MOST_OCTAVES * GRADIENTS];

        Waves(Plan told) {
            plan = told;
        }

        void forget() {
            for (int k = 0; k < known.length; k++) {
                known[k] = 0;
            }
        }

        /** Sees to it that valueKept has the values for this seed. */
        void prepare(int octave, int seed) {
            int sheet = sheetOf(octave, seed);
            if (Guard.at(known, sheet) != 0) {
                return;
            }
            int spot = sheet * MOST_SPOTS;
            for (int y = 0; y < plan.rows; y++) {
                for (int x = 0; x < plan.columns; x++) {
                    Guard.put(values, spot, valueAt(octave, seed, x, y));
                    spot++;
                }
            }
            Guard.put(known, sheet, 1);
        }

        int valueKept(int octave, int seed, int spot) {
            return Guard.at(values, sheetOf(octave, seed) * MOST_SPOTS + spot);
        }

        private static int sheetOf(int octave, int seed) {
            return octave * GRADIENTS + seed % GRADIENTS;
        }

        int valueAt(int octave, int seed, int x, int y) {
            int placeAcross = Guard.quotient(256 * x * Guard.at(plan.across, octave), plan.columns);
            int placeDown = Guard.quotient(256 * y * Guard.at(plan.down, octave), plan.rows);
            int i = placeAcross / 256;
            int j = placeDown / 256;
            int f = placeAcross % 256;
            int g = placeDown % 256;
            int fadeAcross = fade(f);
            int above = between(
                    pullOf(gradientAt(octave, seed, i, j), f, g),
                    pullOf(gradientAt(octave, seed, i + 1, j), f - 256, g), fadeAcross);
            int below = between(
                    pullOf(gradientAt(octave, seed, i, j + 1), f, g - 256),
                    pullOf(gradientAt(octave, seed, i + 1, j + 1), f - 256, g - 256), fadeAcross);
            return between(above, below, fade(g));
        }

        /** The number of the gradient at a corner, i and j 0 or greater. */
        int gradientAt(int octave, int seed, int i, int j) {
            int a = Guard.wrap(i, Guard.at(plan.across, octave));
            int b = Guard.wrap(j, Guard.at(plan.down, octave));
            return (seed + 3 * a * a + 5 * b + a * b) % GRADIENTS;
        }

        private static int pullOf(int gradient, int across, int down) {
            return Guard.at(ACROSS, gradient) * across + Guard.at(DOWN, gradient) * down;
        }

        private static int fade(int t) {
            return t * t * (768 - 2 * t) / 65536;
        }

        private static int between(int p, int q, int fade) {
            return p + (q - p) * fade / 256;
        }
    }

    /** The patches of a sheet, and its contours. */
    private static final class Patches {
        private final int[] patchOf = new int[MOST_SPOTS];
        private final int[] sizes = new int[MOST_SPOTS];
        private final int[] queue = new int[MOST_SPOTS];
        private int queued;
        private int number;
        private int contours;

        void find(int[] inks, int columns, int rows) {
            int spots = columns * rows;
            number = 0;
            contours = 0;
            for (int spot = 0; spot < spots; spot++) {
                Guard.put(patchOf, spot, -1);
            }
            for (int spot = 0; spot < spots; spot++) {
                int ink = Guard.at(inks, spot);
                if (Guard.at(inks, rightOf(spot, columns)) != ink) {
                    contours++;
                }
                if (Guard.at(inks, below(spot, columns, spots)) != ink) {
                    contours++;
                }
                if (Guard.at(patchOf, spot) < 0) {
                    spread(inks, spot, columns, spots);
                }
            }
        }

        /** Makes a new patch of all that hangs together with the spot. */
        private void spread(int[] inks, int first, int columns, int spots) {
            int ink = Guard.at(inks, first);
            queued = 0;
            join(first, true);
            for (int k = 0; k < queued && k < queue.length; k++) {
                int spot = Guard.at(queue, k);
                int left = leftOf(spot, columns);
                int right = rightOf(spot, columns);
                int above = above(spot, columns, spots);
                int below = below(spot, columns, spots);
                join(left, Guard.at(inks, left) == ink);
                join(right, Guard.at(inks, right) == ink);
                join(above, Guard.at(inks, above) == ink);
                join(below, Guard.at(inks, below) == ink);
            }
            Guard.put(sizes, number, queued);
            number++;
        }

        private void join(int spot, boolean alike) {
            if (alike && Guard.at(patchOf, spot) < 0 && queued < queue.length) {
                Guard.put(patchOf, spot, number);
                Guard.put(queue, queued, spot);
                queued++;
            }
        }

        private static int leftOf(int spot, int columns) {
            return columns > 0 && spot % columns == 0 ? spot - 1 + columns : spot - 1;
        }

        private static int rightOf(int spot, int columns) {
            return columns > 0 && spot % columns == columns - 1 ? spot + 1 - columns : spot + 1;
        }

        private static int above(int spot, int columns, int spots) {
            return spot >= columns ? spot - columns : spot - columns + spots;
        }

        private static int below(int spot, int columns, int spots) {
            return spot + columns < spots ? spot + columns : spot + columns - spots;
        }

        int sizeAt(int spot) {
            return Guard.at(sizes, Guard.at(patchOf, spot));
        }
    }

    /** Numbers laid on one another. */
    private static final class Stack {
        private final int[] numbers = new int[MOST_TOKENS];
        private int number;

        void clear() {
            number = 0;
        }

        void push(int x) {
            if (number >= 0 && number < numbers.length) {
                numbers[number] = x;
                number++;
            }
        }

        void pushTest(boolean holds) {
            push(holds ? 1 : 0);
        }

        int pop() {
            if (number > 0 && number <= numbers.length) {
                number--;
                return numbers[number];
            }
            return 0;
        }
    }

    /**
     * The paper as it is, or as it would be: what dips change, and what follows from that. Heights,
     * inks and shares hold behind refresh(), patches behind group().
     */
    private static final class Sheet {
        private final Plan plan;
        private final Waves waves;
        private final int[] pulls = new int[MOST_COMBS];
        private final int[] shifts = new int[MOST_COMBS * MOST_LINES];
        private final int[] seeds = new int[MOST_OCTAVES];
        private final int[] heights = new int[MOST_SPOTS];
        private final int[] inks = new int[MOST_SPOTS];
        private final int[] shares = new int[MOST_INKS + 1];
        private final Patches patches = new Patches();
        private final Stack stack = new Stack();
        private int driftAcross;
        private int driftDown;
        private int dips;
        private int carried;
        private boolean fresh;
        private boolean grouped;

        Sheet(Plan told, Waves values) {
            plan = told;
            waves = values;
        }

        /** Begins anew, as the list tells. */
        void begin() {
            driftAcross = 0;
            driftDown = 0;
            dips = 0;
            carried = 0;
            takePulls(plan.pulls);
            Guard.copy(plan.seeds, seeds);
            spoil();
        }

        void take(Sheet other) {
            driftAcross = other.driftAcross;
            driftDown = other.driftDown;
            dips = other.dips;
            carried = other.carried;
            takePulls(other.pulls);
            Guard.copy(other.seeds, seeds);
            spoil();
        }

        private void takePulls(int[] others) {
            for (int comb = 0; comb < plan.combs; comb++) {
                Guard.put(pulls, comb, Guard.at(others, comb));
                reckonShifts(comb);
            }
        }

        private void spoil() {
            fresh = false;
            grouped = false;
        }

        // ---- what changes it; each tells whether it did

        boolean changePull(int comb, int pull) {
            if (Guard.at(pulls, comb) == pull) {
                return false;
            }
            Guard.put(pulls, comb, pull);
            reckonShifts(comb);
            spoil();
            return true;
        }

        boolean changeSeed(int octave, int seed) {
            if (Guard.at(seeds, octave) == seed) {
                return false;
            }
            Guard.put(seeds, octave, seed);
            spoil();
            return true;
        }

        boolean changeDrift(int across, int down) {
            int acrossBefore = driftAcross;
            int downBefore = driftDown;
            driftAcross = Guard.wrap((long) driftAcross + across, plan.columns);
            driftDown = Guard.wrap((long) driftDown + down, plan.rows);
            boolean changed = driftAcross != acrossBefore || driftDown != downBefore;
            if (changed) {
                spoil();
            }
            return changed;
        }

        void dipOnce() {
            for (int order = 0; order < plan.orders.number; order++) {
                if (plan.orders.looksAtSpots(order)) {
                    refresh();
                }
                if (carryOut(order)) {
                    carried++;
                }
            }
            dips++;
        }

        private boolean carryOut(int order) {
            int test = Guard.at(plan.orders.tests, order);
            int end = Guard.at(plan.orders.ends, order);
            if (test < end && reckon(test, end) == 0) {
                return false;
            }
            int sum = reckon(Guard.at(plan.orders.sums, order), test);
            int target = Guard.at(plan.orders.targets, order);
            switch (Guard.at(plan.orders.kinds, order)) {
                case Kind.PULL:
                    return changePull(target, Guard.hold(sum, 0, MOST_PULL));
                case Kind.SEED:
                    return changeSeed(target, Guard.hold(sum, 0, MOST_SEED));
                default:
                    return target == 0 ? changeDrift(sum, 0) : changeDrift(0, sum);
            }
        }

        // ---- sums and tests

        private int reckon(int from, int to) {
            stack.clear();
            for (int k = from; k < to; k++) {
                step(Guard.at(plan.orders.operations, k), Guard.at(plan.orders.operands, k));
            }
            return stack.pop();
        }

        private void step(int operation, int operand) {
            switch (operation) {
                case Kind.NUMBER:
                    stack.push(operand);
                    break;
                case Kind.DIP:
                    stack.push(dips);
                    break;
                case Kind.PULL:
                    stack.push(Guard.at(pulls, operand));
                    break;
                case Kind.SEED:
                    stack.push(Guard.at(seeds, operand));
                    break;
                case Kind.SHARE:
                    stack.push(Guard.at(shares, operand + 1));
                    break;
                case Kind.EDGE:
                    stack.pushTest(isAtEdge(operand + 1));
                    break;
                case Kind.NEGATE:
                    stack.push(-stack.pop());
                    break;
                case Kind.NOT:
                    stack.pushTest(stack.pop() == 0);
                    break;
                default:
                    int right = stack.pop();
                    int left = stack.pop();
                    stack.push(operation == Kind.HEIGHT
                            ? Guard.at(heights, plan.spot(left, right)) : combine(operation, left, right));
            }
        }

        private boolean isAtEdge(int ink) {
            for (int row = 0; row < plan.rows; row++) {
                if (Guard.at(inks, row * plan.columns) == ink) {
                    return true;
                }
            }
            return false;
        }

        private static int combine(int operation, int left, int right) {
            switch (operation) {
                case Kind.PLUS:
                    return left + right;
                case Kind.MINUS:
                    return left - right;
                case Kind.TIMES:
                    return left * right;
                case Kind.OVER:
                    return Guard.quotient(left, right);
                case Kind.MIN:
                    return Math.min(left, right);
                case Kind.MAX:
                    return Math.max(left, right);
                default:
                    return isSo(operation, left, right) ? 1 : 0;
            }
        }

        private static boolean isSo(int operation, int left, int right) {
            switch (operation) {
                case Kind.LESS:
                    return left < right;
                case Kind.GREATER:
                    return left > right;
                case Kind.EQUAL:
                    return left == right;
                case Kind.LESS_OR_EQUAL:
                    return left <= right;
                case Kind.GREATER_OR_EQUAL:
                    return left >= right;
                case Kind.AND:
                    return left != 0 && right != 0;
                default:
                    return left != 0 || right != 0;
            }
        }

        // ---- what follows

        /** Keeps by how much the comb moves each of its lines. */
        private void reckonShifts(int comb) {
            int lines = plan.linesOf(comb);
            int teeth = Guard.at(plan.teeth, comb);
            int pull = Guard.at(pulls, comb);
            for (int line = 0; line < lines; line++) {
                int t = Guard.wrap(line * teeth, lines);
                int shift = Guard.quotient(pull * 2 * Math.min(t, lines - t), lines);
                Guard.put(shifts, comb * MOST_LINES + line, shift);
            }
        }

        int shiftOf(int comb, int line) {
            return Guard.at(shifts, comb * MOST_LINES + line);
        }

        /** Whence the spot came. */
        int source(int column, int row) {
            int x = Guard.wrap(column, plan.columns);
            int y = Guard.wrap(row, plan.rows);
            for (int comb = plan.combs - 1; comb >= 0; comb--) {
                if (Guard.at(plan.ways, comb) == 0) {
                    x = Guard.wrap(x - shiftOf(comb, y), plan.columns);
                } else {
                    y = Guard.wrap(y - shiftOf(comb, x), plan.rows);
                }
            }
            return plan.spot(x - driftAcross, y - driftDown);
        }

        void refresh() {
            if (fresh) {
                return;
            }
            for (int octave = 0; octave < plan.octaves; octave++) {
                waves.prepare(octave, Guard.at(seeds, octave));
            }
            for (int ink = 0; ink < shares.length; ink++) {
                shares[ink] = 0;
            }
            int spot = 0;
            for (int row = 0; row < plan.rows; row++) {
                for (int column = 0; column < plan.columns; column++) {
                    int height = heightFrom(source(column, row));
                    int ink = plan.inkOf(height);
                    Guard.put(heights, spot, height);
                    Guard.put(inks, spot, ink);
                    Guard.put(shares, ink, Guard.at(shares, ink) + 1);
                    spot++;
                }
            }
            fresh = true;
        }

        private int heightFrom(int source) {
            int sum = 0;
            for (int octave = 0; octave < plan.octaves; octave++) {
                int value = waves.valueKept(octave, Guard.at(seeds, octave), source);
                sum += Guard.at(plan.strengths, octave) * value;
            }
            return Guard.hold(500 + sum / 16, 0, MOST_HEIGHT);
        }

        void group() {
            refresh();
            if (!grouped) {
                patches.find(inks, plan.columns, plan.rows);
                grouped = true;
            }
        }

        // ---- what it tells

        /** What count() tells, but for the tape. */
        int tell(int what) {
            switch (what) {
                case 0:
                    return dips;
                case 1:
                    return plan.columns;
                case 2:
                    return plan.rows;
                case 3:
                    return plan.octaves;
                case 4:
                    return plan.combs;
                case 5:
                    return plan.inks;
                case 6:
                    return plan.orders.number;
                case 7:
                    return patches.number;
                case 8:
                    return patches.contours;
                case 9:
                    return smallestHeight();
                case 10:
                    return greatestHeight();
                case 11:
                    return driftAcross;
                case 12:
                    return driftDown;
                default:
                    return carried;
            }
        }

        private int smallestHeight() {
            int smallest = MOST_HEIGHT;
            for (int spot = 0; spot < plan.columns * plan.rows; spot++) {
                smallest = Math.min(smallest, Guard.at(heights, spot));
            }
            return smallest;
        }

        private int greatestHeight() {
            int greatest = 0;
            for (int spot = 0; spot < plan.columns * plan.rows; spot++) {
                greatest = Math.max(greatest, Guard.at(heights, spot));
            }
            return greatest;
        }

        int tellOctave(int octave, int what) {
            switch (what) {
                case 0:
                    return Guard.at(plan.across, octave);
                case 1:
                    return Guard.at(plan.down, octave);
                case 2:
                    return Guard.at(plan.strengths, octave);
                default:
                    return Guard.at(seeds, octave);
            }
        }

        int tellComb(int comb, int what) {
            switch (what) {
                case 0:
                    return Guard.at(plan.ways, comb);
                case 1:
                    return Guard.at(plan.teeth, comb);
                default:
                    return Guard.at(pulls, comb);
            }
        }
    }
}
