import java.util.Arrays;

/**
 * A checker of finite systems against branching time. A system has at most 2 to the 14 STATES, so
 * sets of them are held as bits, one for each valuation in the ORDER, and STATES that GO to the
 * same STATES share one stored row of them.
 */
public final class PathProver {

    private static final int TAPE_LIMIT = 65536;
    private static final int FED_BYTES = 20;
    private static final int NESTING_LIMIT = 150;
    private static final int INSTANCE_LIMIT = 200;
    private static final int ENTRY_LIMIT = 4000;
    private static final int HEIGHT_LIMIT = 120;
    private static final int BIT_LIMIT = 14;
    private static final int WORD_LIMIT = 256;
    private static final int SHOWN_LIMIT = 2000;

    // Kept words have their place in this text as their number; main is known, but a NAME.
    private static final String KNOWN_WORDS = "MODULE VAR DEFINE ASSIGN INIT INVAR TRANS FAIRNESS SPEC init next boolean xor EX EF EG AX AF AG E A U in mod case esac TRUE FALSE main ";
    private static final int K_MODULE = 0;
    private static final int K_VAR = 1;
    private static final int K_DEFINE = 2;
    private static final int K_INIT = 4;
    private static final int K_INVAR = 5;
    private static final int K_TRANS = 6;
    private static final int K_FAIRNESS = 7;
    private static final int K_SPEC = 8;
    private static final int K_INIT_OF = 9;
    private static final int K_NEXT = 10;
    private static final int K_BOOLEAN = 11;
    private static final int K_XOR = 12;
    private static final int K_EX = 13;
    private static final int K_AG = 18;
    private static final int K_E = 19;
    private static final int K_A = 20;
    private static final int K_U = 21;
    private static final int K_IN = 22;
    private static final int K_MOD = 23;
    private static final int K_CASE = 24;
    private static final int K_ESAC = 25;
    private static final int K_TRUE = 26;
    private static final int K_FALSE = 27;
    private static final int NAME_MAIN = 28;

    private static final String SINGLE_SIGNS = "(){}[],;:.!&|=<>+-*/";
    private static final int S_OPEN = 64;
    private static final int S_CLOSE = 65;
    private static final int S_BRACE = 66;
    private static final int S_UNBRACE = 67;
    private static final int S_BRACKET = 68;
    private static final int S_UNBRACKET = 69;
    private static final int S_COMMA = 70;
    private static final int S_END = 71;
    private static final int S_COLON = 72;
    private static final int S_DOT = 73;
    private static final int S_NOT = 74;
    private static final int S_AND = 75;
    private static final int S_OR = 76;
    private static final int S_EQ = 77;
    private static final int S_LT = 78;
    private static final int S_GT = 79;
    private static final int S_PLUS = 80;
    private static final int S_MINUS = 81;
    private static final int S_TIMES = 82;
    private static final int S_OVER = 83;
    private static final String DOUBLE_SIGNS = "->:=..!=<=>=";
    private static final int S_IMP = 96;
    private static final int S_BECOMES = 97;
    private static final int S_TO = 98;
    private static final int S_NE = 99;
    private static final int S_LE = 100;
    private static final int S_GE = 101;
    private static final int S_IFF = 102;
    private static final int T_NAME = 112;
    private static final int T_NUMBER = 113;
    private static final int T_END = 114;
    private static final int T_NONE = 115;

    // An E is kept with each operator behind its parts.
    private static final int OP_TRUTH = 0;
    private static final int OP_NUMBER = 1;
    private static final int OP_NAME = 2;
    private static final int OP_NEXT = 3;
    private static final int OP_IFF = 4;
    private static final int OP_IMP = 5;
    private static final int OP_OR = 6;
    private static final int OP_XOR = 7;
    private static final int OP_AND = 8;
    private static final int OP_NOT = 9;
    private static final int OP_EX = 10;
    private static final int OP_EF = 11;
    private static final int OP_EG = 12;
    private static final int OP_AX = 13;
    private static final int OP_AF = 14;
    private static final int OP_AG = 15;
    private static final int OP_EQ = 16;
    private static final int OP_NE = 17;
    private static final int OP_LT = 18;
    private static final int OP_LE = 19;
    private static final int OP_GT = 20;
    private static final int OP_GE = 21;
    private static final int OP_ADD = 22;
    private static final int OP_SUB = 23;
    private static final int OP_MUL = 24;
    private static final int OP_DIV = 25;
    private static final int OP_MOD = 26;
    private static final int OP_NEG = 27;
    private static final int OP_EU = 28;
    private static final int OP_AU = 29;
    private static final int OP_IN = 30;
    private static final int OP_CASE = 31;
    private static final int OP_ONE = 32;
    private static final int OP_SET = 33;
    private static final int OP_PICK = 34;

    // What the parser is inside of; these stand on its stack among the operators.
    private static final int IN_CLAIM = 40;
    private static final int IN_DEFINE = 41;
    private static final int IN_GIVEN = 42;
    private static final int IN_LINE = 43;
    private static final int IN_PAREN = 44;
    private static final int IN_UNTIL = 45;
    private static final int IN_GOAL = 46;
    private static final int IN_LIST = 47;
    private static final int IN_COND = 48;
    private static final int IN_THEN = 49;
    private static final int IN_SET = 50;
    private static final int IN_ONE = 51;
    private static final int IN_PICK_COND = 52;
    private static final int IN_PICK_THEN = 53;

    private static final int[] LEVEL = {
        0, 0, 0, 0, 1, 2, 3, 3, 4, 5, 5, 5, 5, 5, 5, 5, 6, 6, 6, 6, 6, 6, 7, 7, 8, 8, 8, 9, 0, 0,
        0, 0, 0, 0, 0, 0, 0, 0, 0, 0, 0, 0, 0, 0, 0, 0, 0, 0, 0, 0, 0, 0, 0, 0};
    private static final int LEVEL_IMP = 2;
    private static final int LEVEL_AND = 4;
    private static final int LEVEL_PREFIX = 5;
    private static final int LEVEL_COMPARE = 6;
    private static final int LEVEL_ALL = 9;

    // What the parser is to do next.
    private static final int WANT_MODULE = 0;
    private static final int WANT_SECTION = 1;
    private static final int WANT_VAR = 2;
    private static final int WANT_DEFINE = 3;
    private static final int WANT_LINE = 4;
    private static final int WANT_P = 5;
    private static final int WANT_F = 6;
    private static final int WANT_CHOICE = 7;
    private static final int HAVE_PART = 8;
    private static final int HAVE_CHOICE = 9;
    private static final int DONE = 10;

    private static final int SORT_TRUTH = 1;
    private static final int SORT_NUMBER = 2;
    private static final int SORT_SYMBOL = 3;
    private static final int SORT_TIMED = 9;

    private static final int TYPE_BOOLEAN = 0;
    private static final int TYPE_RANGE = 1;
    private static final int TYPE_LIST = 2;
    private static final int TYPE_MODULE = 3;

    private static final int IS_NOTHING = 0;
    private static final int IS_PARAM = 1;
    private static final int IS_DEFINE = 2;
    private static final int IS_VARIABLE = 3;
    private static final int IS_INSTANCE = 4;
    private static final int IS_SYMBOL = 5;
    private static final int IS_MODULE = 6;

    private static final int FORM_ALONE = 1;
    private static final int FORM_INIT = 2;
    private static final int FORM_NEXT = 4;

    private static final int ALLOW_NONE = 0;
    private static final int ALLOW_NEXT = 1;
    private static final int ALLOW_TIMED = 2;

    private static final int FINE = 0;
    private static final int UNSOUND = 1;
    private static final int TOO_MUCH = 2;

    // Columns of the tables of a MODEL.
    private static final int M_NAME = 0;
    private static final int M_PARAMS = 1;
    private static final int M_VARS = 2;
    private static final int M_DEFS = 3;
    private static final int M_LINES = 4;
    private static final int M_CLAIMS = 5;
    private static final int M_REFS = 6;
    private static final int M_USED = 7;
    private static final int M_DONE = 8;
    private static final int M_INSTANCES = 9;
    private static final int M_ENTRIES = 10;
    private static final int V_NAME = 0;
    private static final int V_TYPE = 1;
    private static final int V_A = 2;
    private static final int V_B = 3;
    private static final int V_MODULE = 4;
    private static final int V_FORMS = 5;
    private static final int R_START = 0;
    private static final int R_LENGTH = 1;
    private static final int R_KIND = 2;
    private static final int R_TARGET = 3;
    private static final int D_NAME = 0;
    private static final int C_KIND = 0;
    private static final int L_FORM = 0;
    private static final int L_VAR = 1;
    private static final int L_FROM = 2;
    private static final int L_TO = 3;
    private static final int I_MODULE = 0;
    private static final int I_SLOTS = 1;
    private static final int I_ENTRIES = 2;
    private static final int I_PARAMS = 3;
    private static final int E_FROM = 0;
    private static final int E_TO = 1;
    private static final int E_WHERE = 2;
    private static final int E_HEIGHT = 3;
    private static final int E_SORT = 4;
    private static final int E_SEEN = 5;
    private static final int T_FROM = 0;
    private static final int T_TO = 1;
    private static final int T_WHERE = 2;
    private static final int T_VARIABLE = 3;
    private static final int T_STAGE = 4;
    private static final int W_VAR = 0;
    private static final int W_SIZE = 1;
    private static final int W_PLACE = 2;
    private static final int W_ONLY = 3;

    // What a linked E does besides the operators.
    private static final int DO_CONST = 0;
    private static final int DO_LOAD = 1;
    private static final int SIDES = 28;

    private byte[] tape;
    private int length;
    private int place;
    private boolean hasModel;
    private Model model;
    private Model spare;
    private final Parser parser;
    private final Judge judge;
    private final Space space;
    private final Relation relation;
    private final Graph graph;
    private final Prover prover;
    private boolean isReady;
    private int current;

    public PathProver() {
        tape = new byte[256];
        place = -1;
        model = new Model();
        spare = new Model();
        parser = new Parser();
        judge = new Judge();
        space = new Space();
        relation = new Relation(space);
        graph = new Graph(space, relation);
        prover = new Prover(space, relation, graph);
        current = -1;
    }

    public int feed(int a, int b, int c, int d, int e) throws IndexOutOfBoundsException {
        if (length + FED_BYTES > TAPE_LIMIT) {
            throw new IndexOutOfBoundsException();
        }
        if (length + FED_BYTES > tape.length) {
            tape = Arrays.copyOf(tape, Math.min(2 * tape.length, TAPE_LIMIT));
        }
        write(a);
        write(b);
        write(c);
        write(d);
        write(e);
        return length;
    }

    private void write(int four) {
        for (int shift = 24; shift >= 0; shift -= 8) {
            tape[length] = (byte) (four >> shift);
            length++;
        }
    }

    public int end(int n) throws IllegalArgumentException {
        if (n < 0 || n > length) {
            throw new IllegalArgumentException();
        }
        length = n;
        return n;
    }

    public int read() throws IllegalArgumentException, UnsupportedOperationException, IndexOutOfBoundsException {
        int bytes = length;
        length = 0;
        place = parser.parse(spare, tape, bytes);
        if (place >= 0) {
            throw new IllegalArgumentException();
        }
        int verdict = judge.verdict(spare);
        if (verdict == UNSOUND) {
            throw new UnsupportedOperationException();
        }
        if (verdict == TOO_MUCH) {
            throw new IndexOutOfBoundsException();
        }
        Model before = model;
        model = spare;
        spare = before;
        hasModel = true;
        isReady = false;
        current = -1;
        space.begin(model);
        prover.begin(model);
        return model.specs.size;
    }

    public int place() {
        return place;
    }

    public boolean check(int i) throws IllegalArgumentException, IllegalStateException {
        needNumber(i, model.specs.size);
        needModel();
        ready();
        solve(i);
        return prover.holdsAtStart(i);
    }

    public int states(int what, int i) throws IllegalArgumentException, IllegalStateException {
        if (what < 0 || what > 5 || i < 0 || what != 5 && i != 0) {
            throw new IllegalArgumentException();
        }
        if (what == 5) {
            needNumber(i, model.specs.size);
        }
        needModel();
        ready();
        if (what == 5) {
            solve(i);
        }
        return prover.tally(what, i);
    }

    public int count(int what) throws IllegalArgumentException, IllegalStateException {
        if (what < 0 || what > 7) {
            throw new IllegalArgumentException();
        }
        needModel();
        switch (what) {
            case 0:
                return model.variables.size;
            case 1:
                return model.bits();
            case 2:
                return model.instances.size;
            case 3:
                return model.specs.size;
            case 4:
                return model.fairs.size;
            case 5:
                return prover.shownCount;
            case 6:
                return prover.loop;
            default:
                return current >= 0 ? 1 : 0;
        }
    }

    public int show(int i) throws IllegalArgumentException, IllegalStateException,
            UnsupportedOperationException, IndexOutOfBoundsException {
        needNumber(i, model.specs.size);
        needModel();
        ready();
        solve(i);
        int start = prover.startToShow(i);
        if (start < 0) {
            throw new UnsupportedOperationException();
        }
        prover.aim(i);
        int many = prover.display(i, start);
        if (many > SHOWN_LIMIT) {
            throw new IndexOutOfBoundsException();
        }
        return many;
    }

    public int pick(int n) throws IllegalArgumentException, IllegalStateException, IndexOutOfBoundsException {
        needPlain(n);
        needModel();
        return enter(n < prover.shownCount ? prover.shown[n] : -1);
    }

    public int first(int n) throws IllegalArgumentException, IllegalStateException, IndexOutOfBoundsException {
        needPlain(n);
        needModel();
        ready();
        return enter(prover.initialState(n));
    }

    public int step(int n) throws IllegalArgumentException, IllegalStateException,
            UnsupportedOperationException, IndexOutOfBoundsException {
        needPlain(n);
        needModel();
        needCurrent();
        return enter(prover.follower(current, n));
    }

    public int value(int v) throws IllegalArgumentException, IllegalStateException, UnsupportedOperationException {
        needNumber(v, model.variables.size);
        needModel();
        needCurrent();
        return prover.worthOf(v, current);
    }

    public boolean holds(int i) throws IllegalArgumentException, IllegalStateException, UnsupportedOperationException {
        needNumber(i, model.specs.size);
        needModel();
        needCurrent();
        solve(i);
        return prover.isTrueIn(i, current);
    }

    /** Nothing is to be changed: STATES are held in one order, and rows are thrown away by read. */
    public int tidy(int what) throws IllegalArgumentException, IllegalStateException {
        if (what < 0 || what > 3) {
            throw new IllegalArgumentException();
        }
        needModel();
        return model.specs.size;
    }

    public int faults(int what) throws IllegalArgumentException {
        if (what < 0 || what > 2) {
            throw new IllegalArgumentException();
        }
        return what == 2 ? prover.strayPaths : 0;
    }

    /** Lays out the STATES and where they GO, when these are first asked for. */
    private void ready() {
        if (isReady) {
            return;
        }
        isReady = true;
        space.know();
        relation.begin();
        relation.takeLines();
        relation.splitPieces();
        relation.takeEquals();
        relation.takePieces();
        relation.loadWide();
        relation.weave();
        graph.build();
    }

    private void solve(int spec) {
        if (!prover.isKept(spec)) {
            prover.solve(model.specs.get(spec, 0), model.specs.get(spec, 1), model.specs.get(spec, 2), 0);
            prover.keep(spec);
        }
    }

    private int enter(int state) {
        if (state < 0) {
            throw new IndexOutOfBoundsException();
        }
        current = state;
        return prover.followers(state);
    }

    private void needNumber(int i, int bound) {
        if (i < 0 || hasModel && i >= bound) {
            throw new IllegalArgumentException();
        }
    }

    private void needPlain(int n) {
        if (n < 0) {
            throw new IllegalArgumentException();
        }
    }

    private void needModel() {
        if (!hasModel) {
            throw new IllegalStateException();
        }
    }

    private void needCurrent() {
        if (current < 0) {
            throw new UnsupportedOperationException();
        }
    }

    /** How many parts stand before an operator. */
    private static int partsOf(int op, int arg) {
        if (op <= OP_NEXT) {
            return 0;
        }
        if (op >= OP_NOT && op <= OP_AG || op == OP_NEG || op == OP_ONE) {
            return 1;
        }
        switch (op) {
            case OP_IN:
                return arg + 1;
            case OP_SET:
                return arg;
            case OP_CASE:
            case OP_PICK:
                return 2 * arg;
            default:
                return 2;
        }
    }

    private static boolean isTimed(int op) {
        return op >= OP_EX && op <= OP_AG || op == OP_EU || op == OP_AU;
    }

    private static int[] fit(int[] row, int need) {
        return need <= row.length ? row : new int[Math.max(need, 2 * row.length)];
    }

    private static boolean has(long[] set, int x) {
        return (set[x >> 6] >>> x & 1L) != 0;
    }

    /** Rows of ints that grow: the container for what a text says. */
    static final class Rows {
        private final int width;
        private int[] cells;
        private int size;

        Rows(int width, int rows) {
            this.width = width;
            this.cells = new int[width * rows];
        }

        void clear() {
            size = 0;
        }

        void cut(int rows) {
            size = Math.max(0, Math.min(size, rows));
        }

        /** Adds a row of up to four numbers, the rest of it 0; its number. */
        int put(int a, int b, int c, int d) {
            int at = size * width;
            if (at + width > cells.length) {
                cells = Arrays.copyOf(cells, 2 * cells.length + width);
            }
            for (int column = 0; column < width; column++) {
                cells[at + column] = column == 0 ? a : column == 1 ? b : column == 2 ? c : column == 3 ? d : 0;
            }
            size++;
            return size - 1;
        }

        int get(int row, int column) {
            return row < 0 || row >= size || column >= width ? 0 : cells[row * width + column];
        }

        void set(int row, int column, int value) {
            if (row >= 0 && row < size && column < width) {
                cells[row * width + column] = value;
            }
        }
    }

    /** Parts THE TAPE into TOKENS, and gives each WORD a number. */
    static final class Lexer {
        private static final int W_START = 0;
        private static final int W_LENGTH = 1;
        private static final int W_CHAIN = 2;
        private static final int W_SYMBOL = 3;

        private byte[] tape;
        private int length;
        private int at;
        private int kind;
        private int datum;
        private final Rows tokens = new Rows(3, 64);
        private final byte[] known;
        private byte[] letters;
        private int lettersUsed;
        private final Rows words;
        private final int[] heads;
        private int symbols;

        Lexer() {
            known = new byte[KNOWN_WORDS.length()];
            for (int i = 0; i < known.length; i++) {
                known[i] = (byte) KNOWN_WORDS.charAt(i);
            }
            letters = new byte[512];
            words = new Rows(4, 64);
            heads = new int[256];
            tape = known;
        }

        /** All TOKENS up to the end, or up to a byte that is in none. */
        void scan(byte[] bytes, int many) {
            tape = bytes;
            length = many;
            at = 0;
            tokens.clear();
            forgetWords();
            kind = T_NAME;
            for (int i = 0; i <= many && kind != T_END && kind != T_NONE; i++) {
                skipBlanks();
                int place = at;
                datum = 0;
                if (at >= length) {
                    kind = T_END;
                } else if (isLetter(tape[at])) {
                    word();
                } else if (isDigit(tape[at])) {
                    number();
                } else {
                    sign();
                }
                tokens.put(kind, datum, place, 0);
            }
        }

        private void forgetWords() {
            symbols = 0;
            lettersUsed = 0;
            words.clear();
            Arrays.fill(heads, -1);
            int from = 0;
            for (int i = 0; i < known.length; i++) {
                if (known[i] == ' ') {
                    numberOf(known, from, i);
                    from = i + 1;
                }
            }
        }

        private void skipBlanks() {
            boolean inRemark = false;
            for (; at < length; at++) {
                int c = tape[at];
                if (inRemark) {
                    inRemark = c != 10;
                } else if (c == '-' && at + 1 < length && tape[at + 1] == '-') {
                    inRemark = true;
                } else if (c != 9 && c != 10 && c != 13 && c != 32) {
                    return;
                }
            }
        }

        private static boolean isLetter(int c) {
            return c >= 'a' && c <= 'z' || c >= 'A' && c <= 'Z' || c == '_';
        }

        private static boolean isDigit(int c) {
            return c >= '0' && c <= '9';
        }

        private void word() {
            int from = at;
            for (; at < length; at++) {
                if (!isLetter(tape[at]) && !isDigit(tape[at])) {
                    break;
                }
            }
            datum = numberOf(tape, from, at);
            kind = datum < NAME_MAIN ? datum : T_NAME;
        }

        private void number() {
            for (; at < length && isDigit(tape[at]); at++) {
                datum = Math.min(datum * 10 + tape[at] - '0', TAPE_LIMIT);
            }
            kind = datum > 32767 ? T_NONE : T_NUMBER;
        }

        private void sign() {
            char c = (char) (tape[at] & 255);
            int d = at + 1 < length ? tape[at + 1] : 0;
            int e = at + 2 < length ? tape[at + 2] : 0;
            if (c == '<' && d == '-' && e == '>') {
                kind = S_IFF;
                at += 3;
                return;
            }
            for (int i = 0; i + 1 < DOUBLE_SIGNS.length(); i += 2) {
                if (DOUBLE_SIGNS.charAt(i) == c && DOUBLE_SIGNS.charAt(i + 1) == d) {
                    kind = S_IMP + i / 2;
                    at += 2;
                    return;
                }
            }
            int single = SINGLE_SIGNS.indexOf(c);
            kind = single < 0 ? T_NONE : S_OPEN + single;
            at++;
        }

        private int numberOf(byte[] from, int start, int stop) {
            int hash = 0;
            for (int i = start; i < stop; i++) {
                hash = hash * 31 + from[i];
            }
            int head = (hash ^ hash >>> 8) & 255;
            int w = heads[head];
            for (int i = 0; i < words.size && w >= 0; i++) {
                if (isWord(w, from, start, stop)) {
                    return w;
                }
                w = words.get(w, W_CHAIN);
            }
            return keepWord(from, start, stop, head);
        }

        private boolean isWord(int w, byte[] from, int start, int stop) {
            int first = words.get(w, W_START);
            if (words.get(w, W_LENGTH) != stop - start) {
                return false;
            }
            for (int i = start; i < stop; i++) {
                if (letters[first + i - start] != from[i]) {
                    return false;
                }
            }
            return true;
        }

        private int keepWord(byte[] from, int start, int stop, int head) {
            int many = stop - start;
            if (lettersUsed + many > letters.length) {
                letters = Arrays.copyOf(letters, 2 * letters.length + many);
            }
            System.arraycopy(from, start, letters, lettersUsed, many);
            int w = words.put(lettersUsed, many, heads[head], -1);
            heads[head] = w;
            lettersUsed += many;
            return w;
        }

        /** SYMBOLS are numbered as they stand as VALUES, so that 0 is what a case without a truth gives. */
        int makeSymbol(int word) {
            if (words.get(word, W_SYMBOL) < 0) {
                words.set(word, W_SYMBOL, symbols);
                symbols++;
            }
            return words.get(word, W_SYMBOL);
        }

        int symbolOf(int word) {
            return words.get(word, W_SYMBOL);
        }
    }

    /** What a TEXT says, and the INSTANCES, ENTRIES and VARIABLES that come of it. */
    static final class Model {
        private final Rows code = new Rows(2, 64);
        private final Rows modules = new Rows(11, 4);
        private final Rows params = new Rows(1, 4);
        private final Rows vars = new Rows(6, 8);
        private final Rows values = new Rows(2, 8);
        private final Rows given = new Rows(2, 4);
        private final Rows defs = new Rows(3, 8);
        private final Rows lines = new Rows(4, 8);
        private final Rows claims = new Rows(3, 8);
        private final Rows refs = new Rows(4, 32);
        private final Rows steps = new Rows(1, 32);
        private final Rows instances = new Rows(4, 4);
        private final Rows slots = new Rows(1, 8);
        private final Rows entries = new Rows(6, 8);
        private final Rows order = new Rows(1, 8);
        private final Rows variables = new Rows(4, 8);
        private final Rows fairs = new Rows(3, 4);
        private final Rows specs = new Rows(3, 4);
        private final Rows open = new Rows(2, 8);

        void clear() {
            code.clear();
            modules.clear();
            params.clear();
            vars.clear();
            values.clear();
            given.clear();
            defs.clear();
            lines.clear();
            claims.clear();
            refs.clear();
            steps.clear();
            instances.clear();
            slots.clear();
            entries.clear();
            order.clear();
            variables.clear();
            fairs.clear();
            specs.clear();
        }

        void openModule(int name) {
            int row = modules.put(name, params.size, vars.size, defs.size);
            modules.set(row, M_LINES, lines.size);
            modules.set(row, M_CLAIMS, claims.size);
            modules.set(row, M_REFS, refs.size);
        }

        /** A MODULE's rows in a table end where those of the next MODULE begin. */
        int stop(int module, int column, Rows table) {
            return module + 1 < modules.size ? modules.get(module + 1, column) : table.size;
        }

        int sortOf(int varRow) {
            int type = vars.get(varRow, V_TYPE);
            if (type == TYPE_BOOLEAN) {
                return SORT_TRUTH;
            }
            return type == TYPE_LIST && values.get(vars.get(varRow, V_A), 1) != 0 ? SORT_SYMBOL : SORT_NUMBER;
        }

        int valuesOf(int varRow) {
            int type = vars.get(varRow, V_TYPE);
            if (type == TYPE_BOOLEAN) {
                return 2;
            }
            int b = vars.get(varRow, V_B);
            return type == TYPE_RANGE ? b - vars.get(varRow, V_A) + 1 : b;
        }

        int worth(int varRow, int digit) {
            int type = vars.get(varRow, V_TYPE);
            if (type == TYPE_BOOLEAN) {
                return digit;
            }
            int a = vars.get(varRow, V_A);
            return type == TYPE_RANGE ? a + digit : values.get(a + digit, 0);
        }

        int bits() {
            int all = 0;
            for (int v = 0; v < variables.size; v++) {
                all += 32 - Integer.numberOfLeadingZeros(variables.get(v, W_SIZE) - 1);
            }
            return all;
        }

        /** Makes all INSTANCES below main, in the order in which their VARS stand. */
        void grow(int main) {
            open.clear();
            addInstance(main, -1, -1);
            for (int i = 0; i < 2 * ENTRY_LIMIT && open.size > 0; i++) {
                int top = open.size - 1;
                int instance = open.get(top, 0);
                int varRow = open.get(top, 1);
                int module = instances.get(instance, I_MODULE);
                if (varRow < stop(module, M_VARS, vars)) {
                    open.set(top, 1, varRow + 1);
                    addVar(instance, module, varRow);
                } else {
                    addClaims(instance, module);
                    open.cut(top);
                }
            }
        }

        private void addVar(int instance, int module, int varRow) {
            int slot = instances.get(instance, I_SLOTS) + varRow - modules.get(module, M_VARS);
            if (vars.get(varRow, V_TYPE) == TYPE_MODULE) {
                slots.set(slot, 0, instances.size);
                addInstance(vars.get(varRow, V_MODULE), instance, varRow);
            } else {
                slots.set(slot, 0, variables.put(varRow, valuesOf(varRow), -1, worth(varRow, 0)));
            }
        }

        private void addInstance(int module, int parent, int varRow) {
            int paramsHere = stop(module, M_PARAMS, params) - modules.get(module, M_PARAMS);
            int instance = instances.put(module, slots.size, entries.size, paramsHere);
            modules.set(module, M_USED, 1);
            for (int v = modules.get(module, M_VARS); v < stop(module, M_VARS, vars); v++) {
                slots.put(-1, 0, 0, 0);
            }
            for (int p = 0; p < paramsHere; p++) {
                int row = vars.get(varRow, V_A) + p;
                entries.put(given.get(row, 0), given.get(row, 1), parent, 0);
            }
            for (int d = modules.get(module, M_DEFS); d < stop(module, M_DEFS, defs); d++) {
                entries.put(defs.get(d, 1), defs.get(d, 2), instance, 0);
            }
            open.put(instance, modules.get(module, M_VARS), 0, 0);
        }

        private void addClaims(int instance, int module) {
            for (int c = modules.get(module, M_CLAIMS); c < stop(module, M_CLAIMS, claims); c++) {
                int kind = claims.get(c, C_KIND);
                if (kind == K_FAIRNESS) {
                    fairs.put(claims.get(c, 1), claims.get(c, 2), instance, 0);
                } else if (kind == K_SPEC) {
                    specs.put(claims.get(c, 1), claims.get(c, 2), instance, 0);
                }
            }
        }

        /** The VARIABLE, the entry or the SYMBOL that NAMES mean in an INSTANCE. */
        int reach(int ref, int where) {
            int kind = refs.get(ref, R_KIND);
            int target = refs.get(ref, R_TARGET);
            if (kind == IS_SYMBOL) {
                return target;
            }
            int instance = where;
            int start = refs.get(ref, R_START);
            for (int i = 0; i < refs.get(ref, R_LENGTH) - 1; i++) {
                instance = slots.get(instances.get(instance, I_SLOTS) + steps.get(start + i, 0), 0);
            }
            if (kind == IS_VARIABLE) {
                return slots.get(instances.get(instance, I_SLOTS) + target, 0);
            }
            int entry = instances.get(instance, I_ENTRIES) + target;
            return kind == IS_PARAM ? entry : entry + instances.get(instance, I_PARAMS);
        }

        /** Adds all claims of a kind and all lines of a form, with their INSTANCES and VARIABLES (or -1). */
        void collect(int claimKind, int form, int stage, Rows tasks) {
            for (int i = 0; i < instances.size; i++) {
                int m = instances.get(i, I_MODULE);
                for (int c = modules.get(m, M_CLAIMS); c < stop(m, M_CLAIMS, claims); c++) {
                    if (claims.get(c, C_KIND) == claimKind) {
                        int row = tasks.put(claims.get(c, 1), claims.get(c, 2), i, -1);
                        tasks.set(row, T_STAGE, stage);
                    }
                }
                int first = instances.get(i, I_SLOTS) - modules.get(m, M_VARS);
                for (int n = modules.get(m, M_LINES); n < stop(m, M_LINES, lines); n++) {
                    if (lines.get(n, L_FORM) == form) {
                        int variable = slots.get(first + lines.get(n, L_VAR), 0);
                        int row = tasks.put(lines.get(n, L_FROM), lines.get(n, L_TO), i, variable);
                        tasks.set(row, T_STAGE, stage);
                    }
                }
            }
        }

        /** Where the part begins whose operator stands at last. */
        int startOf(int last) {
            int need = 1;
            for (int i = last; i >= 0; i--) {
                need += partsOf(code.get(i, 0), code.get(i, 1)) - 1;
                if (need == 0) {
                    return i;
                }
            }
            return 0;
        }
    }

    /** Reads a TEXT by the grammar; what is open stands on a stack, so that no depth is in calls. */
    static final class Parser {
        private final Lexer lexer = new Lexer();
        private final Rows stack = new Rows(2, 32);
        private Model model;
        private int at;
        private int kind;
        private int datum;
        private int mode;
        private int cap;
        // How many P, F, E in ( ) or [ ], "case" and CHOICES are begun and not ended.
        private int open;
        private int from;
        private int name;
        private int form;

        /** The PLACE of the TOKEN with which it can't go on, or -1. */
        int parse(Model into, byte[] tape, int length) {
            model = into;
            model.clear();
            stack.clear();
            lexer.scan(tape, length);
            at = -1;
            advance();
            mode = WANT_MODULE;
            boolean fine = true;
            for (int i = 0; i < 8 * TAPE_LIMIT && fine && mode != DONE; i++) {
                switch (mode) {
                    case WANT_MODULE:
                        fine = module();
                        break;
                    case WANT_VAR:
                        fine = kind == T_NAME ? variable() : section();
                        break;
                    case WANT_DEFINE:
                        fine = kind == T_NAME ? definition() : section();
                        break;
                    case WANT_LINE:
                        fine = kind == T_NAME || kind == K_INIT_OF || kind == K_NEXT ? line() : section();
                        break;
                    case WANT_SECTION:
                        fine = section();
                        break;
                    case HAVE_PART:
                        fine = operator();
                        break;
                    case HAVE_CHOICE:
                        fine = choiceEnded();
                        break;
                    case WANT_CHOICE:
                        fine = choice();
                        break;
                    default:
                        fine = operand();
                        break;
                }
            }
            if (!fine) {
                return lexer.tokens.get(at, 2);
            }
            giveSymbols();
            return -1;
        }

        /** A NAME may stand before the TYPE that makes it a SYMBOL, so this is looked at in the end. */
        private void giveSymbols() {
            for (int r = 0; r < model.refs.size; r++) {
                int symbol = lexer.symbolOf(model.steps.get(model.refs.get(r, R_START), 0));
                model.refs.set(r, R_TARGET, symbol);
            }
        }

        private void advance() {
            at = Math.min(at + 1, lexer.tokens.size - 1);
            kind = lexer.tokens.get(at, 0);
            datum = lexer.tokens.get(at, 1);
        }

        private boolean take(int wanted) {
            if (kind != wanted) {
                return false;
            }
            advance();
            return true;
        }

        private boolean module() {
            if (!take(K_MODULE)) {
                return false;
            }
            model.openModule(datum);
            mode = WANT_SECTION;
            return take(T_NAME) && (kind != S_OPEN || params());
        }

        private boolean params() {
            for (int i = 0; i < TAPE_LIMIT; i++) {
                advance();
                model.params.put(datum, 0, 0, 0);
                if (!take(T_NAME)) {
                    return false;
                }
                if (kind != S_COMMA) {
                    break;
                }
            }
            return take(S_CLOSE);
        }

        private boolean section() {
            int head = kind;
            if (head == T_END || head == K_MODULE) {
                mode = head == T_END ? DONE : WANT_MODULE;
                return true;
            }
            if (head < K_VAR || head > K_SPEC) {
                return false;
            }
            advance();
            if (head >= K_INIT) {
                return start(IN_CLAIM, head, WANT_P);
            }
            mode = head == K_VAR ? WANT_VAR : head == K_DEFINE ? WANT_DEFINE : WANT_LINE;
            return true;
        }

        private boolean definition() {
            int named = datum;
            advance();
            return take(S_BECOMES) && start(IN_DEFINE, named, WANT_P);
        }

        private boolean line() {
            form = kind == K_INIT_OF ? FORM_INIT : kind == K_NEXT ? FORM_NEXT : FORM_ALONE;
            if (form != FORM_ALONE) {
                advance();
                if (!take(S_OPEN)) {
                    return false;
                }
            }
            name = datum;
            if (!take(T_NAME) || form != FORM_ALONE && !take(S_CLOSE) || !take(S_BECOMES)) {
                return false;
            }
            return start(IN_LINE, 0, WANT_CHOICE);
        }

        private boolean variable() {
            int row = model.vars.put(datum, TYPE_BOOLEAN, 0, 0);
            advance();
            if (!take(S_COLON)) {
                return false;
            }
            if (kind == T_NAME) {
                return instance(row);
            }
            if (kind == S_BRACE) {
                return valueList(row) && take(S_END);
            }
            if (kind == K_BOOLEAN) {
                return take(K_BOOLEAN) && take(S_END);
            }
            model.vars.set(row, V_TYPE, TYPE_RANGE);
            return bound(row, V_A) && take(S_TO) && bound(row, V_B) && take(S_END);
        }

        private boolean instance(int row) {
            model.vars.set(row, V_TYPE, TYPE_MODULE);
            model.vars.set(row, V_MODULE, datum);
            model.vars.set(row, V_A, model.given.size);
            advance();
            if (kind != S_OPEN) {
                return take(S_END);
            }
            advance();
            start(IN_GIVEN, row, WANT_P);
            open = 1;
            return true;
        }

        private boolean bound(int row, int column) {
            boolean minus = kind == S_MINUS;
            if (minus) {
                advance();
            }
            model.vars.set(row, column, minus ? -datum : datum);
            return take(T_NUMBER);
        }

        private boolean valueList(int row) {
            model.vars.set(row, V_TYPE, TYPE_LIST);
            model.vars.set(row, V_A, model.values.size);
            for (int i = 0; i < TAPE_LIMIT; i++) {
                advance();
                boolean minus = kind == S_MINUS;
                if (minus) {
                    advance();
                }
                if (kind == T_NAME && !minus) {
                    model.values.put(lexer.makeSymbol(datum), 1, 0, 0);
                } else if (kind == T_NUMBER) {
                    model.values.put(minus ? -datum : datum, 0, 0, 0);
                } else {
                    return false;
                }
                advance();
                if (kind != S_COMMA) {
                    break;
                }
            }
            model.vars.set(row, V_B, model.values.size - model.vars.get(row, V_A));
            return take(S_UNBRACE);
        }

        /** Begins an E or a CHOICE that stands in nothing else. */
        private boolean start(int context, int note, int wanted) {
            push(context, note);
            open = 0;
            from = model.code.size;
            mode = wanted;
            return true;
        }

        private void push(int what, int note) {
            stack.put(what, note, 0, 0);
        }

        private int top() {
            return stack.get(stack.size - 1, 0);
        }

        private int note() {
            return stack.get(stack.size - 1, 1);
        }

        private void drop() {
            stack.cut(stack.size - 1);
        }

        private boolean turnTo(int context, int note, int wanted) {
            stack.set(stack.size - 1, 0, context);
            stack.set(stack.size - 1, 1, note);
            mode = wanted;
            return true;
        }

        private void emit(int op, int arg) {
            model.code.put(op, arg, 0, 0);
        }

        private boolean operand() {
            if (kind == S_NOT || kind >= K_EX && kind <= K_A) {
                return prefix();
            }
            int begun = (mode == WANT_P ? 2 : 1) + (kind == K_CASE ? 1 : 0);
            if (open + begun > NESTING_LIMIT) {
                return false;
            }
            open += begun;
            if (kind == S_MINUS) {
                push(OP_NEG, 0);
                mode = WANT_F;
            } else if (kind == S_OPEN) {
                push(IN_PAREN, 0);
                open++;
                mode = WANT_P;
            } else if (kind == K_CASE) {
                push(IN_COND, 0);
                mode = WANT_P;
            } else {
                return leaf();
            }
            advance();
            return true;
        }

        private boolean prefix() {
            int head = kind;
            if (mode != WANT_P || open + 1 > NESTING_LIMIT) {
                return false;
            }
            open++;
            advance();
            if (head == S_NOT) {
                push(OP_NOT, 0);
            } else if (head <= K_AG) {
                push(OP_EX + head - K_EX, 0);
            } else {
                open++;
                push(IN_UNTIL, head == K_E ? OP_EU : OP_AU);
                return take(S_BRACKET);
            }
            return true;
        }

        private boolean leaf() {
            if (kind == K_TRUE || kind == K_FALSE) {
                emit(OP_TRUTH, kind == K_TRUE ? 1 : 0);
                advance();
            } else if (kind == T_NUMBER) {
                emit(OP_NUMBER, datum);
                advance();
            } else if (kind == T_NAME) {
                emit(OP_NAME, model.refs.size);
                if (!names()) {
                    return false;
                }
            } else {
                if (!take(K_NEXT) || !take(S_OPEN)) {
                    return false;
                }
                emit(OP_NEXT, model.refs.size);
                if (!names() || !take(S_CLOSE)) {
                    return false;
                }
            }
            factorEnded();
            return true;
        }

        private boolean names() {
            int row = model.refs.put(model.steps.size, 0, IS_NOTHING, -1);
            for (int i = 0; i < TAPE_LIMIT; i++) {
                model.steps.put(datum, 0, 0, 0);
                if (!take(T_NAME)) {
                    return false;
                }
                if (kind != S_DOT) {
                    break;
                }
                advance();
            }
            model.refs.set(row, R_LENGTH, model.steps.size - model.refs.get(row, R_START));
            return true;
        }

        private void factorEnded() {
            open--;
            for (int i = stack.size; i > 0 && top() == OP_NEG; i--) {
                drop();
                emit(OP_NEG, 0);
                open--;
            }
            mode = HAVE_PART;
            cap = LEVEL_ALL;
        }

        /** Takes operators from the stack that bind at least so closely; the level of the last, or 0. */
        private int unwind(int least) {
            int last = 0;
            for (int i = stack.size; i > 0 && LEVEL[top()] >= least; i--) {
                last = LEVEL[top()];
                if (last == LEVEL_PREFIX) {
                    open--;
                }
                emit(top(), note());
                drop();
            }
            return last;
        }

        private void endOfP() {
            unwind(LEVEL_PREFIX);
            open--;
        }

        private boolean operator() {
            int op = binary(kind);
            if (op < 0) {
                return closer();
            }
            int level = op == OP_IN ? LEVEL_COMPARE : LEVEL[op];
            if (level > cap) {
                return false;
            }
            if (level <= LEVEL_AND) {
                endOfP();
            }
            boolean fromLeft = level != LEVEL_IMP && level != LEVEL_COMPARE;
            int last = unwind(fromLeft ? level : level + 1);
            if (level == LEVEL_COMPARE && LEVEL[top()] == LEVEL_COMPARE) {
                return false;
            }
            advance();
            if (op == OP_IN) {
                push(IN_LIST, 0);
                mode = WANT_P;
                return take(S_BRACE);
            }
            push(op, last == level ? 1 : 0);
            mode = level <= LEVEL_AND ? WANT_P : WANT_F;
            return true;
        }

        private static int binary(int sign) {
            switch (sign) {
                case S_IFF:
                    return OP_IFF;
                case S_IMP:
                    return OP_IMP;
                case S_OR:
                    return OP_OR;
                case K_XOR:
                    return OP_XOR;
                case S_AND:
                    return OP_AND;
                case S_EQ:
                    return OP_EQ;
                case S_NE:
                    return OP_NE;
                case S_LT:
                    return OP_LT;
                case S_LE:
                    return OP_LE;
                case S_GT:
                    return OP_GT;
                case S_GE:
                    return OP_GE;
                case K_IN:
                    return OP_IN;
                case S_PLUS:
                    return OP_ADD;
                case S_MINUS:
                    return OP_SUB;
                case S_TIMES:
                    return OP_MUL;
                case S_OVER:
                    return OP_DIV;
                case K_MOD:
                    return OP_MOD;
                default:
                    return -1;
            }
        }

        /** An E has ended: what it stands in says how it goes on. */
        private boolean closer() {
            endOfP();
            unwind(1);
            int context = top();
            switch (context) {
                case IN_CLAIM:
                    model.claims.put(note(), from, model.code.size, 0);
                    return itemEnded(WANT_SECTION);
                case IN_DEFINE:
                    model.defs.put(note(), from, model.code.size, 0);
                    return itemEnded(WANT_DEFINE);
                case IN_GIVEN:
                    return given();
                case IN_PAREN:
                    drop();
                    open--;
                    factorEnded();
                    return take(S_CLOSE);
                case IN_UNTIL:
                    return take(K_U) && turnTo(IN_GOAL, note(), WANT_P);
                case IN_GOAL:
                    emit(note(), 0);
                    open--;
                    return take(S_UNBRACKET) && partEnded();
                case IN_LIST:
                    return listed(OP_IN);
                case IN_SET:
                    return listed(OP_SET);
                case IN_COND:
                    return take(S_COLON) && turnTo(IN_THEN, note(), WANT_P);
                case IN_PICK_COND:
                    return take(S_COLON) && turnTo(IN_PICK_THEN, note(), WANT_CHOICE);
                case IN_THEN:
                    return branched();
                default:
                    emit(OP_ONE, 0);
                    drop();
                    mode = HAVE_CHOICE;
                    return true;
            }
        }

        private boolean itemEnded(int wanted) {
            drop();
            mode = wanted;
            return take(S_END);
        }

        private boolean given() {
            model.given.put(from, model.code.size, 0, 0);
            if (kind == S_COMMA) {
                from = model.code.size;
                mode = WANT_P;
                return take(S_COMMA);
            }
            model.vars.set(note(), V_B, model.given.size - model.vars.get(note(), V_A));
            drop();
            mode = WANT_VAR;
            return take(S_CLOSE) && take(S_END);
        }

        /** Behind a P or R that is whole only what binds looser may come. */
        private boolean partEnded() {
            drop();
            mode = HAVE_PART;
            cap = LEVEL_AND;
            return true;
        }

        private boolean listed(int op) {
            int many = note() + 1;
            if (kind == S_COMMA) {
                advance();
                return turnTo(top(), many, WANT_P);
            }
            emit(op, many);
            if (!take(S_UNBRACE)) {
                return false;
            }
            partEnded();
            if (op == OP_SET) {
                mode = HAVE_CHOICE;
            }
            return true;
        }

        private boolean branched() {
            int many = note() + 1;
            if (!take(S_END)) {
                return false;
            }
            if (kind != K_ESAC) {
                return turnTo(IN_COND, many, WANT_P);
            }
            advance();
            emit(OP_CASE, many);
            drop();
            open--;
            factorEnded();
            return true;
        }

        private boolean choice() {
            int begun = kind == K_CASE ? 2 : 1;
            if (open + begun > NESTING_LIMIT) {
                return false;
            }
            open += begun;
            mode = WANT_P;
            if (kind == S_BRACE) {
                push(IN_SET, 0);
                advance();
            } else if (kind == K_CASE) {
                push(IN_PICK_COND, 0);
                advance();
            } else {
                push(IN_ONE, 0);
            }
            return true;
        }

        private boolean choiceEnded() {
            open--;
            if (top() == IN_LINE) {
                model.lines.put(form, name, from, model.code.size);
                return itemEnded(WANT_LINE);
            }
            int many = note() + 1;
            if (!take(S_END)) {
                return false;
            }
            if (kind != K_ESAC) {
                return turnTo(IN_PICK_COND, many, WANT_P);
            }
            advance();
            emit(OP_PICK, many);
            drop();
            open--;
            return true;
        }
    }

    /** Whether a TEXT is SOUND by all but what stands in E, and what its NAMES are. */
    static final class Sound {
        private final Rows members = new Rows(5, 32);
        private final int[] heads = new int[512];
        private Model model;
        private int main;

        boolean isWellFormed(Model of) {
            model = of;
            members.clear();
            Arrays.fill(heads, -1);
            boolean fine = true;
            for (int m = 0; m < model.modules.size; m++) {
                fine &= add(-1, model.modules.get(m, M_NAME), IS_MODULE, m);
            }
            main = rowOf(find(-1, NAME_MAIN));
            if (!fine || main < 0 || model.stop(main, M_PARAMS, model.params) > model.modules.get(main, M_PARAMS)) {
                return false;
            }
            for (int m = 0; m < model.modules.size; m++) {
                if (!namesDiffer(m) || !typesFit(m) || !linesFit(m)) {
                    return false;
                }
            }
            return endsSomewhere();
        }

        private int hashOf(int module, int name) {
            int hash = module * 7919 + name * 31;
            return (hash ^ hash >>> 9) & 511;
        }

        private boolean add(int module, int name, int kind, int row) {
            if (find(module, name) >= 0) {
                return false;
            }
            int head = hashOf(module, name);
            int at = members.put(module, name, kind, row);
            members.set(at, 4, heads[head]);
            heads[head] = at;
            return true;
        }

        private int find(int module, int name) {
            int at = heads[hashOf(module, name)];
            for (int i = 0; i < members.size && at >= 0; i++) {
                if (members.get(at, 0) == module && members.get(at, 1) == name) {
                    return at;
                }
                at = members.get(at, 4);
            }
            return -1;
        }

        private int kindOf(int member) {
            return member < 0 ? IS_NOTHING : members.get(member, 2);
        }

        private int rowOf(int member) {
            return member < 0 ? -1 : members.get(member, 3);
        }

        private boolean namesDiffer(int m) {
            boolean fine = true;
            for (int p = model.modules.get(m, M_PARAMS); p < model.stop(m, M_PARAMS, model.params); p++) {
                fine &= add(m, model.params.get(p, 0), IS_PARAM, p);
            }
            for (int v = model.modules.get(m, M_VARS); v < model.stop(m, M_VARS, model.vars); v++) {
                boolean plain = model.vars.get(v, V_TYPE) != TYPE_MODULE;
                fine &= add(m, model.vars.get(v, V_NAME), plain ? IS_VARIABLE : IS_INSTANCE, v);
            }
            for (int d = model.modules.get(m, M_DEFS); d < model.stop(m, M_DEFS, model.defs); d++) {
                fine &= add(m, model.defs.get(d, D_NAME), IS_DEFINE, d);
            }
            return fine;
        }

        private boolean typesFit(int m) {
            for (int v = model.modules.get(m, M_VARS); v < model.stop(m, M_VARS, model.vars); v++) {
                int type = model.vars.get(v, V_TYPE);
                if (type == TYPE_RANGE && model.vars.get(v, V_A) > model.vars.get(v, V_B)
                        || type == TYPE_LIST && !valuesFit(v) || type == TYPE_MODULE && !instanceFits(v)) {
                    return false;
                }
            }
            return true;
        }

        private boolean valuesFit(int v) {
            int a = model.vars.get(v, V_A);
            boolean fine = true;
            for (int i = a; i < a + model.vars.get(v, V_B); i++) {
                fine &= model.values.get(i, 1) == model.values.get(a, 1);
                fine &= add(-2 - v, model.values.get(i, 0), IS_SYMBOL, i);
            }
            return fine;
        }

        private boolean instanceFits(int v) {
            int module = rowOf(find(-1, model.vars.get(v, V_MODULE)));
            if (module < 0) {
                return false;
            }
            model.vars.set(v, V_MODULE, module);
            int wanted = model.stop(module, M_PARAMS, model.params) - model.modules.get(module, M_PARAMS);
            return wanted == model.vars.get(v, V_B);
        }

        private boolean linesFit(int m) {
            for (int i = model.modules.get(m, M_LINES); i < model.stop(m, M_LINES, model.lines); i++) {
                int member = find(m, model.lines.get(i, L_VAR));
                if (kindOf(member) != IS_VARIABLE) {
                    return false;
                }
                int v = rowOf(member);
                int form = model.lines.get(i, L_FORM);
                int before = model.vars.get(v, V_FORMS);
                if (form == FORM_ALONE && before != 0 || (before & (form | FORM_ALONE)) != 0) {
                    return false;
                }
                model.vars.set(v, V_FORMS, before | form);
                model.lines.set(i, L_VAR, v);
            }
            return true;
        }

        /** A MODULE is done when all MODULES of its VARS are; one that never is has itself in it. */
        private boolean endsSomewhere() {
            int done = 0;
            for (int i = 0; i < model.modules.size && done < model.modules.size; i++) {
                for (int m = 0; m < model.modules.size; m++) {
                    if (model.modules.get(m, M_DONE) == 0 && reckon(m)) {
                        done++;
                    }
                }
            }
            return done == model.modules.size;
        }

        private boolean reckon(int m) {
            int many = 1;
            int all = model.stop(m, M_DEFS, model.defs) - model.modules.get(m, M_DEFS)
                    + model.stop(m, M_LINES, model.lines) - model.modules.get(m, M_LINES)
                    + model.stop(m, M_CLAIMS, model.claims) - model.modules.get(m, M_CLAIMS);
            for (int v = model.modules.get(m, M_VARS); v < model.stop(m, M_VARS, model.vars); v++) {
                all++;
                if (model.vars.get(v, V_TYPE) == TYPE_MODULE) {
                    int child = model.vars.get(v, V_MODULE);
                    if (model.modules.get(child, M_DONE) == 0) {
                        return false;
                    }
                    many = Math.min(many + model.modules.get(child, M_INSTANCES), INSTANCE_LIMIT + 1);
                    all += model.vars.get(v, V_B) + model.modules.get(child, M_ENTRIES);
                    all = Math.min(all, 2 * TAPE_LIMIT);
                }
            }
            model.modules.set(m, M_DONE, 1);
            model.modules.set(m, M_INSTANCES, many);
            model.modules.set(m, M_ENTRIES, all);
            return true;
        }

        /** Finds what the NAMES in E mean, in MODULES that have INSTANCES; false if one means nothing. */
        boolean areNamesKnown() {
            for (int m = 0; m < model.modules.size; m++) {
                if (model.modules.get(m, M_USED) != 0) {
                    for (int r = model.modules.get(m, M_REFS); r < model.stop(m, M_REFS, model.refs); r++) {
                        if (!isKnown(m, r)) {
                            return false;
                        }
                    }
                }
            }
            return true;
        }

        private boolean isKnown(int m, int ref) {
            int module = m;
            int start = model.refs.get(ref, R_START);
            int last = model.refs.get(ref, R_LENGTH) - 1;
            for (int i = 0; i < last; i++) {
                int member = find(module, model.steps.get(start + i, 0));
                if (kindOf(member) != IS_INSTANCE) {
                    return false;
                }
                int v = rowOf(member);
                model.steps.set(start + i, 0, v - model.modules.get(module, M_VARS));
                module = model.vars.get(v, V_MODULE);
            }
            int member = find(module, model.steps.get(start + last, 0));
            int kind = kindOf(member);
            if (kind == IS_NOTHING && last == 0 && model.refs.get(ref, R_TARGET) >= 0) {
                model.refs.set(ref, R_KIND, IS_SYMBOL);
                return true;
            }
            if (kind != IS_VARIABLE && kind != IS_DEFINE && (kind != IS_PARAM || last > 0)) {
                return false;
            }
            int column = kind == IS_VARIABLE ? M_VARS : kind == IS_DEFINE ? M_DEFS : M_PARAMS;
            model.refs.set(ref, R_KIND, kind);
            model.refs.set(ref, R_TARGET, rowOf(member) - model.modules.get(module, column));
            return true;
        }
    }

    /** Says whether a TEXT can be the MODEL: SOUND, and within the limits, in the order of read. */
    static final class Judge {
        private final Sound sound = new Sound();
        private final Rows open = new Rows(2, 16);
        private int[] stack = new int[64];
        private Model model;

        int verdict(Model of) {
            model = of;
            if (!sound.isWellFormed(of)) {
                return UNSOUND;
            }
            if (of.modules.get(sound.main, M_INSTANCES) > INSTANCE_LIMIT
                    || of.modules.get(sound.main, M_ENTRIES) > ENTRY_LIMIT) {
                return TOO_MUCH;
            }
            of.grow(sound.main);
            if (!sound.areNamesKnown() || !areOrdered()) {
                return UNSOUND;
            }
            stack = fit(stack, of.code.size + 1);
            if (!areLow()) {
                return TOO_MUCH;
            }
            if (!haveSorts()) {
                return UNSOUND;
            }
            return of.bits() > BIT_LIMIT ? TOO_MUCH : FINE;
        }

        /** Orders what NAMES stand for so that each comes behind its parts; false if one contains itself. */
        private boolean areOrdered() {
            for (int e = 0; e < model.entries.size; e++) {
                if (model.entries.get(e, E_SEEN) == 0 && !visit(e)) {
                    return false;
                }
            }
            return true;
        }

        private boolean visit(int entry) {
            open.clear();
            enter(entry);
            for (int i = 0; i < 2 * ENTRY_LIMIT + 2 && open.size > 0; i++) {
                int top = open.size - 1;
                int part = nextPart(top);
                if (part < 0) {
                    model.entries.set(open.get(top, 0), E_SEEN, 2);
                    model.order.put(open.get(top, 0), 0, 0, 0);
                    open.cut(top);
                } else if (model.entries.get(part, E_SEEN) == 1) {
                    return false;
                } else {
                    enter(part);
                }
            }
            return true;
        }

        private void enter(int entry) {
            model.entries.set(entry, E_SEEN, 1);
            open.put(entry, model.entries.get(entry, E_FROM), 0, 0);
        }

        /** The next entry that is named in the open one and not yet ordered, or -1. */
        private int nextPart(int top) {
            int entry = open.get(top, 0);
            int where = model.entries.get(entry, E_WHERE);
            for (int i = open.get(top, 1); i < model.entries.get(entry, E_TO); i++) {
                int part = namedAt(i, where);
                if (part >= 0 && model.entries.get(part, E_SEEN) != 2) {
                    open.set(top, 1, i + 1);
                    return part;
                }
            }
            return -1;
        }

        private int namedAt(int i, int where) {
            int ref = model.code.get(i, 1);
            if (model.code.get(i, 0) != OP_NAME && model.code.get(i, 0) != OP_NEXT) {
                return -1;
            }
            int kind = model.refs.get(ref, R_KIND);
            return kind == IS_PARAM || kind == IS_DEFINE ? model.reach(ref, where) : -1;
        }

        private boolean areLow() {
            boolean low = true;
            for (int k = 0; k < model.order.size; k++) {
                int e = model.order.get(k, 0);
                int height = heightOf(model.entries.get(e, E_FROM), model.entries.get(e, E_TO),
                        model.entries.get(e, E_WHERE));
                model.entries.set(e, E_HEIGHT, height);
                low &= height <= HEIGHT_LIMIT;
            }
            for (int i = 0; i < model.instances.size; i++) {
                int m = model.instances.get(i, I_MODULE);
                for (int c = model.modules.get(m, M_CLAIMS); c < model.stop(m, M_CLAIMS, model.claims); c++) {
                    low &= heightOf(model.claims.get(c, 1), model.claims.get(c, 2), i) <= HEIGHT_LIMIT;
                }
                for (int n = model.modules.get(m, M_LINES); n < model.stop(m, M_LINES, model.lines); n++) {
                    low &= heightOf(model.lines.get(n, L_FROM), model.lines.get(n, L_TO), i) <= HEIGHT_LIMIT;
                }
            }
            return low;
        }

        private int heightOf(int from, int to, int where) {
            int top = 0;
            for (int i = from; i < to; i++) {
                int op = model.code.get(i, 0);
                int arg = model.code.get(i, 1);
                int parts = Math.min(partsOf(op, arg), top);
                int highest = 0;
                for (int k = top - parts; k < top; k++) {
                    highest = Math.max(highest, stack[k]);
                }
                int height = op == OP_ONE ? highest : highest + 1;
                if (op == OP_NAME) {
                    int entry = namedAt(i, where);
                    height = entry < 0 ? 1 : 1 + model.entries.get(entry, E_HEIGHT);
                } else if (parts == 2 && arg == 1 && LEVEL[op] > 0) {
                    // A chain is one, however long: what stands left of this has been counted.
                    height = Math.max(stack[top - 2], 1 + stack[top - 1]);
                }
                top -= parts;
                stack[top] = height;
                top++;
            }
            return stack[0];
        }

        private boolean haveSorts() {
            for (int k = 0; k < model.order.size; k++) {
                int e = model.order.get(k, 0);
                int sort = sortOf(model.entries.get(e, E_FROM), model.entries.get(e, E_TO),
                        model.entries.get(e, E_WHERE), ALLOW_NONE);
                model.entries.set(e, E_SORT, sort);
                if (sort == 0) {
                    return false;
                }
            }
            for (int i = 0; i < model.instances.size; i++) {
                if (!claimsAreTruths(i) || !linesHaveSorts(i)) {
                    return false;
                }
            }
            return true;
        }

        private boolean claimsAreTruths(int instance) {
            int m = model.instances.get(instance, I_MODULE);
            for (int c = model.modules.get(m, M_CLAIMS); c < model.stop(m, M_CLAIMS, model.claims); c++) {
                int kind = model.claims.get(c, C_KIND);
                int allow = kind == K_TRANS ? ALLOW_NEXT : kind == K_SPEC ? ALLOW_TIMED : ALLOW_NONE;
                int sort = sortOf(model.claims.get(c, 1), model.claims.get(c, 2), instance, allow);
                if (sort != SORT_TRUTH && sort != SORT_TIMED) {
                    return false;
                }
            }
            return true;
        }

        private boolean linesHaveSorts(int instance) {
            int m = model.instances.get(instance, I_MODULE);
            for (int n = model.modules.get(m, M_LINES); n < model.stop(m, M_LINES, model.lines); n++) {
                int sort = sortOf(model.lines.get(n, L_FROM), model.lines.get(n, L_TO), instance, ALLOW_NONE);
                if (sort != model.sortOf(model.lines.get(n, L_VAR))) {
                    return false;
                }
            }
            return true;
        }

        /** The SORT of an E or CHOICE, or 0 if its parts do not fit. */
        private int sortOf(int from, int to, int where, int allow) {
            int top = 0;
            for (int i = from; i < to; i++) {
                int op = model.code.get(i, 0);
                int arg = model.code.get(i, 1);
                int parts = Math.min(partsOf(op, arg), top);
                int sort = parts == 0 ? leafSort(i, where, allow) : joinedSort(op, top - parts, parts, allow);
                if (sort == 0) {
                    return 0;
                }
                top -= parts;
                stack[top] = sort;
                top++;
            }
            return stack[0];
        }

        private int leafSort(int i, int where, int allow) {
            int op = model.code.get(i, 0);
            if (op == OP_TRUTH || op == OP_NUMBER) {
                return op == OP_TRUTH ? SORT_TRUTH : SORT_NUMBER;
            }
            int ref = model.code.get(i, 1);
            int kind = model.refs.get(ref, R_KIND);
            if (op == OP_NEXT && (kind != IS_VARIABLE || allow != ALLOW_NEXT)) {
                return 0;
            }
            if (kind == IS_SYMBOL) {
                return SORT_SYMBOL;
            }
            int target = model.reach(ref, where);
            return kind == IS_VARIABLE ? model.sortOf(model.variables.get(target, W_VAR))
                    : model.entries.get(target, E_SORT);
        }

        private int joinedSort(int op, int base, int parts, int allow) {
            int first = stack[base];
            if (isTimed(op)) {
                return allow == ALLOW_TIMED && areTruths(base, parts) ? SORT_TIMED : 0;
            }
            if (op <= OP_NOT) {
                if (!areTruths(base, parts)) {
                    return 0;
                }
                return areAll(base, parts, SORT_TRUTH) ? SORT_TRUTH : SORT_TIMED;
            }
            if (op == OP_CASE || op == OP_PICK) {
                return casesSort(base, parts);
            }
            boolean same = first != SORT_TIMED && areAll(base, parts, first);
            if (op == OP_EQ || op == OP_NE || op == OP_IN) {
                return same ? SORT_TRUTH : 0;
            }
            if (op == OP_ONE || op == OP_SET) {
                return same ? first : 0;
            }
            if (!same || first != SORT_NUMBER) {
                return 0;
            }
            return op >= OP_ADD ? SORT_NUMBER : SORT_TRUTH;
        }

        private boolean areTruths(int base, int parts) {
            for (int k = base; k < base + parts; k++) {
                if (stack[k] != SORT_TRUTH && stack[k] != SORT_TIMED) {
                    return false;
                }
            }
            return true;
        }

        private boolean areAll(int base, int parts, int sort) {
            for (int k = base; k < base + parts; k++) {
                if (stack[k] != sort) {
                    return false;
                }
            }
            return true;
        }

        private int casesSort(int base, int parts) {
            int sort = stack[base + 1];
            for (int k = base; k + 1 < base + parts; k += 2) {
                if (stack[k] != SORT_TRUTH || stack[k + 1] != sort) {
                    return 0;
                }
            }
            return sort == SORT_TIMED ? 0 : sort;
        }
    }

    /**
     * Links an E of an INSTANCE, with all that its NAMES stand for, into steps, and reckons them for
     * one valuation after the other. Each step has cells of its own, so that only those are reckoned
     * again whose VARIABLES have moved; those that move fastest are reckoned side by side, in lanes.
     */
    static final class Machine {
        private static final int CELL_LIMIT = 1 << 18;
        private static final int LANES_WANTED = 1024;
        private static final int ALL = -1;

        private Model model;
        private Space space;
        private int[] ops = new int[32];
        private int[] args = new int[32];
        private int[] masks = new int[32];
        private int[] bases = new int[32];
        private int[] useFrom = new int[33];
        private int[] uses = new int[64];
        private int size;
        private int[] cells = new int[64];
        private int[] stack = new int[32];
        private int top;
        private final Rows agenda = new Rows(1, 16);
        private int[] marks = new int[16];
        private final int[] loads = new int[SIDES];
        private final int[] now = new int[SIDES];
        private final int[] digits = new int[SIDES];
        private int outer;
        private int lanes;
        private int laneMask;
        private int changed;

        void begin(Model of, Space in) {
            model = of;
            space = in;
        }

        void load(int from, int to, int where) {
            open();
            need(from, to, where);
            settle();
            emit(from, to, where);
        }

        void open() {
            size = 0;
            useFrom[0] = 0;
            top = 0;
            agenda.clear();
            marks = fit(marks, model.entries.size);
            Arrays.fill(marks, -1);
            Arrays.fill(loads, -1);
            stack = fit(stack, model.code.size + 2);
        }

        /** The step that gives the whole. */
        int root() {
            return stack[0];
        }

        int mask() {
            return top > 0 ? masks[stack[0]] : 0;
        }

        /** Notes all entries that are named in an E, however deep. */
        void need(int from, int to, int where) {
            int start = from;
            int stop = to;
            int here = where;
            int next = agenda.size;
            for (int k = 0; k <= ENTRY_LIMIT; k++) {
                for (int i = start; i < stop; i++) {
                    int ref = model.code.get(i, 1);
                    int kind = model.code.get(i, 0) == OP_NAME ? model.refs.get(ref, R_KIND) : IS_NOTHING;
                    int entry = kind == IS_PARAM || kind == IS_DEFINE ? model.reach(ref, here) : -1;
                    if (entry >= 0 && marks[entry] < 0) {
                        marks[entry] = 0;
                        agenda.put(entry, 0, 0, 0);
                    }
                }
                if (next >= agenda.size) {
                    return;
                }
                int e = agenda.get(next, 0);
                start = model.entries.get(e, E_FROM);
                stop = model.entries.get(e, E_TO);
                here = model.entries.get(e, E_WHERE);
                next++;
            }
        }

        /** Links the noted entries, each behind its parts, so that a NAME is but the step that gives it. */
        void settle() {
            for (int k = 0; k < model.order.size && agenda.size > 0; k++) {
                int e = model.order.get(k, 0);
                if (marks[e] >= 0) {
                    emit(model.entries.get(e, E_FROM), model.entries.get(e, E_TO), model.entries.get(e, E_WHERE));
                    top--;
                    marks[e] = stack[top];
                }
            }
        }

        void emit(int from, int to, int where) {
            for (int i = from; i < to; i++) {
                int op = model.code.get(i, 0);
                int arg = model.code.get(i, 1);
                if (op == OP_TRUTH || op == OP_NUMBER) {
                    add(DO_CONST, arg);
                } else if (op == OP_NAME || op == OP_NEXT) {
                    int kind = model.refs.get(arg, R_KIND);
                    int target = model.reach(arg, where);
                    if (kind == IS_SYMBOL) {
                        add(DO_CONST, target);
                    } else if (kind == IS_VARIABLE) {
                        int place = model.variables.get(target, W_PLACE);
                        int side = op == OP_NEXT ? place + BIT_LIMIT : place;
                        if (place < 0) {
                            add(DO_CONST, model.variables.get(target, W_ONLY));
                        } else if (loads[side] < 0) {
                            loads[side] = size;
                            add(DO_LOAD, side);
                        } else {
                            push(loads[side]);
                        }
                    } else {
                        push(marks[target]);
                    }
                } else {
                    add(op, arg);
                }
            }
        }

        private void push(int step) {
            stack[top] = step;
            top++;
        }

        /** Adds a step that takes its parts from the stack and stands there for them. */
        void add(int op, int arg) {
            int parts = Math.min(partsOf(op, arg), top);
            int used = useFrom[size];
            if (size >= ops.length) {
                ops = Arrays.copyOf(ops, 2 * size);
                args = Arrays.copyOf(args, 2 * size);
                masks = Arrays.copyOf(masks, 2 * size);
                bases = Arrays.copyOf(bases, 2 * size);
                useFrom = Arrays.copyOf(useFrom, 2 * size + 1);
            }
            if (used + parts > uses.length) {
                uses = Arrays.copyOf(uses, 2 * uses.length + parts);
            }
            top -= parts;
            int mask = op == DO_LOAD ? 1 << arg : 0;
            for (int k = 0; k < parts; k++) {
                uses[used + k] = stack[top + k];
                mask |= masks[stack[top + k]];
            }
            ops[size] = op;
            args[size] = arg;
            masks[size] = mask;
            stack[top] = size;
            top++;
            size++;
            useFrom[size] = used + parts;
        }

        /** Sets the VARIABLES of a mask to their first VALUES; how often turn makes all their valuations. */
        int rewind(int moving, boolean sideBySide) {
            outer = moving;
            lanes = 1;
            laneMask = 0;
            int many = 1;
            for (int side = SIDES - 1; side >= 0; side--) {
                if ((moving >>> side & 1) != 0) {
                    int values = space.size[side % BIT_LIMIT];
                    digits[side] = 0;
                    now[side] = space.worth[space.first[side % BIT_LIMIT]];
                    if (sideBySide && outer >>> side == 1 && fits(side, lanes * values)) {
                        lanes *= values;
                        laneMask |= 1 << side;
                        outer ^= 1 << side;
                    } else {
                        many *= values;
                    }
                }
            }
            layOut();
            return many;
        }

        private boolean fits(int side, int wider) {
            int varying = 0;
            for (int i = 0; i < size; i++) {
                varying += (masks[i] & (laneMask | 1 << side)) != 0 ? 1 : 0;
            }
            return (lanes == 1 || wider <= LANES_WANTED) && (long) varying * wider + size <= CELL_LIMIT;
        }

        private void layOut() {
            int used = 0;
            for (int i = 0; i < size; i++) {
                bases[i] = used;
                used += (masks[i] & laneMask) != 0 ? lanes : 1;
            }
            cells = fit(cells, used + 1);
            changed = ALL;
        }

        /** Goes on to the next valuation in the ORDER; from the last to the first. */
        void turn() {
            for (int side = SIDES - 1; side >= 0; side--) {
                if ((outer >>> side & 1) != 0) {
                    int place = side % BIT_LIMIT;
                    boolean around = digits[side] + 1 >= space.size[place];
                    digits[side] = around ? 0 : digits[side] + 1;
                    now[side] = space.worth[space.first[place] + digits[side]];
                    changed |= 1 << side;
                    if (!around) {
                        return;
                    }
                }
            }
        }

        /** Sets a VARIABLE that does not turn. */
        void hold(int side, int digit) {
            int worth = space.worth[space.first[side % BIT_LIMIT] + digit];
            if (now[side] != worth) {
                now[side] = worth;
                changed |= 1 << side;
            }
        }

        /** Reckons all steps in which something has changed. */
        void run() {
            for (int i = 0; i < size; i++) {
                if ((masks[i] & changed) != 0 || changed == ALL) {
                    reckon(i);
                }
            }
            changed = 0;
        }

        /** What a step gives in a lane. */
        int result(int step, int lane) {
            return cells[bases[step] + ((masks[step] & laneMask) != 0 ? lane : 0)];
        }

        private void reckon(int i) {
            int op = ops[i];
            int out = bases[i];
            int many = (masks[i] & laneMask) != 0 ? lanes : 1;
            if (op == DO_CONST) {
                cells[out] = args[i];
            } else if (op == DO_LOAD) {
                if (many == 1) {
                    cells[out] = now[args[i]];
                } else {
                    loadLanes(out, args[i]);
                }
            } else if (op > OP_MOD || op == OP_NOT) {
                gather(i, op, out, many);
            } else if (many == 1) {
                int use = useFrom[i];
                cells[out] = join(op, cells[bases[uses[use]]], cells[bases[uses[use + 1]]]);
            } else if (op <= OP_NE) {
                joinTruths(i, op, out);
            } else {
                joinNumbers(i, op, out);
            }
        }

        private void loadLanes(int out, int side) {
            int place = side % BIT_LIMIT;
            int each = 1;
            for (int other = side + 1; other < SIDES; other++) {
                each *= (laneMask >>> other & 1) != 0 ? space.size[other % BIT_LIMIT] : 1;
            }
            int digit = 0;
            int left = each;
            for (int k = 0; k < lanes; k++) {
                cells[out + k] = space.worth[space.first[place] + digit];
                left--;
                if (left == 0) {
                    left = each;
                    digit = digit + 1 < space.size[place] ? digit + 1 : 0;
                }
            }
        }

        private static int join(int op, int a, int b) {
            switch (op) {
                case OP_IFF:
                case OP_EQ:
                    return a == b ? 1 : 0;
                case OP_XOR:
                case OP_NE:
                    return a != b ? 1 : 0;
                case OP_IMP:
                    return (a ^ 1) | b;
                case OP_OR:
                    return a | b;
                case OP_AND:
                    return a & b;
                case OP_LT:
                    return a < b ? 1 : 0;
                case OP_LE:
                    return a <= b ? 1 : 0;
                case OP_GT:
                    return a > b ? 1 : 0;
                case OP_GE:
                    return a >= b ? 1 : 0;
                case OP_ADD:
                    return (short) (a + b);
                case OP_SUB:
                    return (short) (a - b);
                case OP_MUL:
                    return (short) (a * b);
                case OP_DIV:
                    return b == 0 ? 0 : (short) (a / b);
                default:
                    return b == 0 ? 0 : a % b;
            }
        }

        private void joinTruths(int i, int op, int out) {
            int left = uses[useFrom[i]];
            int right = uses[useFrom[i] + 1];
            int a = bases[left];
            int b = bases[right];
            int stepA = (masks[left] & laneMask) != 0 ? 1 : 0;
            int stepB = (masks[right] & laneMask) != 0 ? 1 : 0;
            boolean other = op == OP_XOR || op == OP_NE;
            for (int k = out; k < out + lanes; k++) {
                switch (op) {
                    case OP_IMP:
                        cells[k] = (cells[a] ^ 1) | cells[b];
                        break;
                    case OP_OR:
                        cells[k] = cells[a] | cells[b];
                        break;
                    case OP_AND:
                        cells[k] = cells[a] & cells[b];
                        break;
                    default:
                        cells[k] = cells[a] == cells[b] != other ? 1 : 0;
                        break;
                }
                a += stepA;
                b += stepB;
            }
        }

        private void joinNumbers(int i, int op, int out) {
            int left = uses[useFrom[i]];
            int right = uses[useFrom[i] + 1];
            int a = bases[left];
            int b = bases[right];
            int stepA = (masks[left] & laneMask) != 0 ? 1 : 0;
            int stepB = (masks[right] & laneMask) != 0 ? 1 : 0;
            for (int k = out; k < out + lanes; k++) {
                switch (op) {
                    case OP_ADD:
                        cells[k] = (short) (cells[a] + cells[b]);
                        break;
                    case OP_SUB:
                        cells[k] = (short) (cells[a] - cells[b]);
                        break;
                    case OP_MUL:
                        cells[k] = (short) (cells[a] * cells[b]);
                        break;
                    case OP_LT:
                        cells[k] = cells[a] < cells[b] ? 1 : 0;
                        break;
                    case OP_LE:
                        cells[k] = cells[a] <= cells[b] ? 1 : 0;
                        break;
                    case OP_GT:
                        cells[k] = cells[a] > cells[b] ? 1 : 0;
                        break;
                    case OP_GE:
                        cells[k] = cells[a] >= cells[b] ? 1 : 0;
                        break;
                    case OP_DIV:
                        cells[k] = cells[b] == 0 ? 0 : (short) (cells[a] / cells[b]);
                        break;
                    default:
                        cells[k] = cells[b] == 0 ? 0 : cells[a] % cells[b];
                        break;
                }
                a += stepA;
                b += stepB;
            }
        }

        /** Operators of one part or many; a CHOICE is told by the step that has its values as parts. */
        private void gather(int i, int op, int out, int many) {
            int use = useFrom[i];
            int end = useFrom[i + 1];
            for (int k = 0; k < many; k++) {
                int first = uses[use];
                int a = cells[bases[first] + ((masks[first] & laneMask) != 0 ? k : 0)];
                int made = op == OP_NOT ? a ^ 1 : op == OP_NEG ? (short) -a : op == OP_PICK ? -1 : 0;
                if (op == OP_ONE || op == OP_SET) {
                    made = i;
                } else if (op == OP_IN) {
                    for (int u = use + 1; u < end; u++) {
                        int part = uses[u];
                        made |= cells[bases[part] + ((masks[part] & laneMask) != 0 ? k : 0)] == a ? 1 : 0;
                    }
                } else if (op == OP_CASE || op == OP_PICK) {
                    for (int u = use; u + 1 < end; u += 2) {
                        int test = uses[u];
                        if (cells[bases[test] + ((masks[test] & laneMask) != 0 ? k : 0)] != 0) {
                            int part = uses[u + 1];
                            made = cells[bases[part] + ((masks[part] & laneMask) != 0 ? k : 0)];
                            break;
                        }
                    }
                }
                cells[out + k] = made;
            }
        }

        /** How many values the CHOICE has that the root gives. */
        int choices() {
            int step = cells[bases[stack[0]]];
            return step < 0 ? 1 : useFrom[step + 1] - useFrom[step];
        }

        /** The k-th of them; a case without a truth gives 0. */
        int choice(int k) {
            int step = cells[bases[stack[0]]];
            return step < 0 ? 0 : cells[bases[uses[useFrom[step] + k]]];
        }
    }

    /** Sets of numbers, each kept once: as a list, or as bits where that is shorter. */
    static final class Sets {
        private static final int CHUNK = 8192;
        private static final int CHUNKS = 1024;
        private static final int HEADS = 1024;

        private final long[][] chunks = new long[CHUNKS][];
        private int used;
        private int number;
        private int[] start = new int[32];
        private int[] sizes = new int[32];
        private int[] spans = new int[32];
        private int[] hashes = new int[32];
        private int[] chain = new int[32];
        private final int[] heads = new int[HEADS];

        void clear() {
            used = 0;
            number = 0;
            Arrays.fill(heads, -1);
        }

        int sizeOf(int id) {
            return sizes[id];
        }

        /** The number of the set of a rising list below universe. */
        int add(int[] list, int many, int universe) {
            int span = Math.min(many, universe + 63 >> 6);
            int hash = many;
            for (int i = 0; i < many; i++) {
                hash = hash * 31 + list[i];
            }
            hash ^= hash >>> 15;
            int id = heads[hash & HEADS - 1];
            for (int i = 0; i < number && id >= 0; i++) {
                if (hashes[id] == hash && sizes[id] == many && spans[id] == span && isAll(id, list)) {
                    return id;
                }
                id = chain[id];
            }
            return keep(list, many, span, hash);
        }

        private boolean isAll(int id, int[] list) {
            long[] chunk = chunks[start[id] / CHUNK];
            int from = start[id] % CHUNK;
            boolean dense = sizes[id] > spans[id];
            for (int i = 0; i < sizes[id]; i++) {
                int x = list[i];
                if (dense ? (chunk[from + (x >> 6)] >>> x & 1L) == 0 : chunk[from + i] != x) {
                    return false;
                }
            }
            return true;
        }

        private int keep(int[] list, int many, int span, int hash) {
            growTo(number + 1);
            if (used % CHUNK + span > CHUNK) {
                used += CHUNK - used % CHUNK;
            }
            int c = Math.min(used / CHUNK, CHUNKS - 1);
            if (chunks[c] == null) {
                chunks[c] = new long[CHUNK];
            }
            int id = number;
            number++;
            start[id] = c * CHUNK + used % CHUNK;
            sizes[id] = many;
            spans[id] = span;
            hashes[id] = hash;
            chain[id] = heads[hash & HEADS - 1];
            heads[hash & HEADS - 1] = id;
            used += span;
            fill(chunks[c], start[id] % CHUNK, id, list);
            return id;
        }

        private void fill(long[] chunk, int from, int id, int[] list) {
            boolean dense = sizes[id] > spans[id];
            if (dense) {
                Arrays.fill(chunk, from, from + spans[id], 0L);
            }
            for (int i = 0; i < sizes[id]; i++) {
                if (dense) {
                    chunk[from + (list[i] >> 6)] |= 1L << list[i];
                } else {
                    chunk[from + i] = list[i];
                }
            }
        }

        private void growTo(int need) {
            if (need > start.length) {
                int wider = 2 * start.length;
                start = Arrays.copyOf(start, wider);
                sizes = Arrays.copyOf(sizes, wider);
                spans = Arrays.copyOf(spans, wider);
                hashes = Arrays.copyOf(hashes, wider);
                chain = Arrays.copyOf(chain, wider);
            }
        }

        boolean contains(int id, int x) {
            long[] chunk = chunks[start[id] / CHUNK];
            int from = start[id] % CHUNK;
            if (sizes[id] > spans[id]) {
                return x >> 6 < spans[id] && (chunk[from + (x >> 6)] >>> x & 1L) != 0;
            }
            for (int i = from; i < from + spans[id]; i++) {
                if (chunk[i] == x) {
                    return true;
                }
            }
            return false;
        }

        boolean meets(int id, long[] set) {
            return next(id, 0, set) >= 0;
        }

        /** The place at or behind a place of a set at which a number stands that is in another, or -1. */
        int next(int id, int place, long[] set) {
            long[] chunk = chunks[start[id] / CHUNK];
            int from = start[id] % CHUNK;
            int span = spans[id];
            if (sizes[id] <= span) {
                for (int i = place; i < span; i++) {
                    int x = (int) chunk[from + i];
                    if ((set[x >> 6] >>> x & 1L) != 0) {
                        return i;
                    }
                }
                return -1;
            }
            long keep = -1L << place;
            for (int w = place >> 6; w < span; w++) {
                long both = chunk[from + w] & set[w] & keep;
                if (both != 0) {
                    return w * 64 + Long.numberOfTrailingZeros(both);
                }
                keep = -1L;
            }
            return -1;
        }

        /** The number that stands at a place of a set. */
        int at(int id, int place) {
            return sizes[id] > spans[id] ? place : (int) chunks[start[id] / CHUNK][start[id] % CHUNK + place];
        }

        /** Writes the numbers of a set into a row from a place on. */
        int spell(int id, int[] into, int from) {
            long[] chunk = chunks[start[id] / CHUNK];
            int base = start[id] % CHUNK;
            int many = sizes[id];
            if (many <= spans[id]) {
                for (int i = 0; i < many; i++) {
                    into[from + i] = (int) chunk[base + i];
                }
                return many;
            }
            int told = 0;
            for (int w = 0; w < spans[id]; w++) {
                long bits = chunk[base + w];
                for (int b = Long.bitCount(bits); b > 0; b--) {
                    into[from + told] = w * 64 + Long.numberOfTrailingZeros(bits);
                    told++;
                    bits &= bits - 1;
                }
            }
            return told;
        }
    }

    /** All valuations of the VARIABLES in the ORDER, and those that are STATES, INITIAL or have a truth. */
    static final class Space {
        private static final int FOR_EVERY = 0;
        private static final int FOR_INITIAL = 1;
        private static final int FOR_FAIR = 2;

        private Model model;
        private final Machine machine = new Machine();
        private final Rows tasks = new Rows(5, 8);
        private int places;
        private final int[] size = new int[BIT_LIMIT];
        private final int[] stride = new int[BIT_LIMIT];
        private final int[] first = new int[BIT_LIMIT];
        private int[] worth = new int[64];
        private int total;
        private int words;
        private boolean known;
        private final long[] every = new long[WORD_LIMIT];
        private final long[] initial = new long[WORD_LIMIT];
        private final long[] scratch = new long[WORD_LIMIT];
        private final long[] table = new long[WORD_LIMIT];
        private int[] projected = new int[64];
        private long[][] fair = new long[4][];
        private int fairCount;

        void begin(Model of) {
            model = of;
            known = false;
            places = 0;
            int values = 0;
            for (int v = 0; v < model.variables.size; v++) {
                int many = model.variables.get(v, W_SIZE);
                if (many > 1 && places < BIT_LIMIT) {
                    model.variables.set(v, W_PLACE, places);
                    size[places] = many;
                    first[places] = values;
                    values = keepWorths(model.variables.get(v, W_VAR), many, values);
                    places++;
                }
            }
            total = 1;
            for (int k = places - 1; k >= 0; k--) {
                stride[k] = total;
                total *= size[k];
            }
            words = total + 63 >> 6;
            projected = fit(projected, total);
            machine.begin(model, this);
        }

        private int keepWorths(int varRow, int many, int from) {
            if (from + many > worth.length) {
                worth = Arrays.copyOf(worth, Math.max(from + many, 2 * worth.length));
            }
            for (int d = 0; d < many; d++) {
                worth[from + d] = model.worth(varRow, d);
            }
            return from + many;
        }

        int digit(int state, int place) {
            return state / Math.max(1, stride[place]) % Math.max(1, size[place]);
        }

        /** The digit of a VALUE at a place, or -1 if the VARIABLE there does not have it. */
        int digitOf(int place, int value) {
            int from = first[place];
            int guess = value - worth[from];
            if (guess >= 0 && guess < size[place] && worth[from + guess] == value) {
                return guess;
            }
            for (int d = 0; d < size[place]; d++) {
                if (worth[from + d] == value) {
                    return d;
                }
            }
            return -1;
        }

        /** Finds the STATES, the INITIAL ones and where each FAIRNESS is true. */
        void know() {
            if (known) {
                return;
            }
            known = true;
            for (int w = 0; w < words; w++) {
                every[w] = total - w * 64 >= 64 ? -1L : (1L << total - w * 64) - 1;
            }
            System.arraycopy(every, 0, initial, 0, words);
            makeRoomForFair();
            tasks.clear();
            model.collect(K_INVAR, FORM_ALONE, FOR_EVERY, tasks);
            model.collect(K_INIT, FORM_INIT, FOR_INITIAL, tasks);
            int fairFrom = tasks.size;
            for (int f = 0; f < fairCount; f++) {
                int row = tasks.put(model.fairs.get(f, 0), model.fairs.get(f, 1), model.fairs.get(f, 2), -1);
                tasks.set(row, T_STAGE, FOR_FAIR);
            }
            for (int t = 0; t < tasks.size; t++) {
                int stage = tasks.get(t, T_STAGE);
                machine.load(tasks.get(t, T_FROM), tasks.get(t, T_TO), tasks.get(t, T_WHERE));
                evaluate(tasks.get(t, T_VARIABLE), stage == FOR_FAIR ? fair[t - fairFrom] : scratch);
                if (stage != FOR_FAIR) {
                    keepCommon(stage == FOR_EVERY ? every : initial, scratch);
                }
            }
            keepCommon(initial, every);
        }

        private void makeRoomForFair() {
            fairCount = model.fairs.size;
            if (fairCount > fair.length) {
                fair = new long[Math.max(fairCount, 2 * fair.length)][];
            }
            for (int f = 0; f < fairCount; f++) {
                if (fair[f] == null || fair[f].length < words) {
                    fair[f] = new long[words];
                }
            }
        }

        void keepCommon(long[] set, long[] other) {
            for (int w = 0; w < words; w++) {
                set[w] &= other[w];
            }
        }

        /**
         * The valuations in which the loaded E is true; or, if it is a CHOICE for a VARIABLE (else
         * -1), those in which the VARIABLE has one of it.
         */
        void evaluate(int variable, long[] out) {
            int place = variable < 0 ? -1 : model.variables.get(variable, W_PLACE);
            int mask = place < 0 ? machine.mask() : machine.mask() | 1 << place;
            int turns = machine.rewind(mask, variable < 0);
            int lanes = machine.lanes;
            int root = machine.root();
            Arrays.fill(table, 0, turns * lanes + 63 >> 6, 0L);
            int only = variable < 0 ? 0 : model.variables.get(variable, W_ONLY);
            int c = 0;
            for (int i = 0; i < turns; i++) {
                machine.run();
                for (int k = 0; k < lanes; k++) {
                    boolean on = variable < 0 ? machine.result(root, k) != 0
                            : isChosen(place < 0 ? only : machine.now[place]);
                    table[c >> 6] |= on ? 1L << c : 0L;
                    c++;
                }
                machine.turn();
            }
            spread(mask, out);
        }

        private boolean isChosen(int value) {
            for (int i = 0; i < machine.choices(); i++) {
                if (machine.choice(i) == value) {
                    return true;
                }
            }
            return false;
        }

        /** From the table over the VARIABLES of a mask to all valuations. */
        private void spread(int mask, long[] out) {
            project(mask);
            for (int w = 0; w < words; w++) {
                long bits = 0;
                int from = w * 64;
                int to = Math.min(64, total - from);
                for (int b = 0; b < to; b++) {
                    int c = projected[from + b];
                    bits |= (table[c >> 6] >>> c & 1L) << b;
                }
                out[w] = bits;
            }
        }

        /** For each valuation its number among those of the VARIABLES of a mask. */
        void project(int mask) {
            int weight = 1;
            projected[0] = 0;
            for (int k = places - 1; k >= 0; k--) {
                boolean counts = (mask >>> k & 1) != 0;
                int add = 0;
                for (int d = 1; d < size[k]; d++) {
                    add += counts ? weight : 0;
                    int from = d * stride[k];
                    for (int j = 0; j < stride[k]; j++) {
                        projected[from + j] = projected[j] + add;
                    }
                }
                weight *= counts ? size[k] : 1;
            }
        }

        int sizeOver(int mask) {
            int many = 1;
            for (int k = 0; k < places; k++) {
                many *= (mask >>> k & 1) != 0 ? size[k] : 1;
            }
            return many;
        }
    }

    /**
     * Which STATES GO to which. Each next and each part of a TRANS is a factor that looks at few
     * VARIABLES only; STATES for which all factors come out alike have one row.
     */
    static final class Relation {
        private static final int F_NOW = 0;
        private static final int F_THEN = 1;
        private static final int F_BASE = 2;
        private static final int F_OUTCOME = 3;
        private static final int F_LEVEL = 4;
        private static final int F_CHAIN = 5;
        private static final int TABLE_LIMIT = 1 << 18;
        private static final int BUCKETS = 32768;
        private static final int NOW_SIDE = (1 << BIT_LIMIT) - 1;

        private final Space space;
        private final Machine machine;
        private final Sets rows = new Sets();
        private final Sets outcomes = new Sets();
        private final Rows factors = new Rows(6, 8);
        private final Rows pieces;
        private final Rows wide = new Rows(3, 4);
        private int[] outs = new int[64];
        private int outsUsed;
        private int[] rowOf = new int[64];
        private int[] classOf = new int[64];
        private int[] keys = new int[64];
        private int[] buckets = new int[64];
        private int[] list = new int[64];
        private int[] options = new int[64];
        private final int[] optionCount = new int[BIT_LIMIT];
        private final int[] widest = new int[BIT_LIMIT];
        private final int[] levels = new int[BIT_LIMIT];
        private final int[] digits = new int[BIT_LIMIT];
        private final long[] alive = new long[WORD_LIMIT];
        private final long[] roll = new long[WORD_LIMIT];
        private final int[] rollIndex = new int[BIT_LIMIT + 1];
        private int rollMask;
        private int rollTurns;
        private int free;

        Relation(Space of) {
            space = of;
            machine = of.machine;
            pieces = of.tasks;
        }

        void begin() {
            rows.clear();
            outcomes.clear();
            factors.clear();
            wide.clear();
            outsUsed = 0;
            rollMask = 0;
            rowOf = fit(rowOf, space.total);
            classOf = fit(classOf, space.total);
            list = fit(list, space.total + 1);
            keys = fit(keys, 2 * space.total + 4);
            buckets = fit(buckets, Math.min(BUCKETS, 4 * Integer.highestOneBit(space.total)));
            options = fit(options, space.worth.length);
            System.arraycopy(space.every, 0, alive, 0, space.words);
            System.arraycopy(space.size, 0, widest, 0, BIT_LIMIT);
            Arrays.fill(classOf, 0, space.total, 1);
        }

        /**
         * Each next is a factor; that of a VARIABLE of one VALUE says only whether there is a step at
         * all. What has been taken is an empty piece from then on.
         */
        void takeLines() {
            Model model = space.model;
            pieces.clear();
            model.collect(K_TRANS, FORM_NEXT, 0, pieces);
            for (int k = 0; k < pieces.size; k++) {
                int variable = pieces.get(k, T_VARIABLE);
                if (variable < 0) {
                    continue;
                }
                machine.load(pieces.get(k, T_FROM), pieces.get(k, T_TO), pieces.get(k, T_WHERE));
                pieces.set(k, T_TO, pieces.get(k, T_FROM));
                int place = model.variables.get(variable, W_PLACE);
                if (place < 0) {
                    space.evaluate(variable, space.scratch);
                    space.keepCommon(alive, space.scratch);
                } else {
                    takeChoices(place);
                }
            }
        }

        /** The loaded CHOICE is for each valuation of its VARIABLES what next has at a place. */
        private void takeChoices(int place) {
            int mask = machine.mask();
            int many = machine.rewind(mask, false);
            int base = reserve(many);
            int most = 0;
            for (int c = 0; c < many; c++) {
                machine.run();
                int told = digitsOf(place);
                outs[base + c] = outcomes.add(list, told, space.size[place]);
                most = Math.max(most, told);
                machine.turn();
            }
            widest[place] = Math.min(widest[place], most);
            addFactor(mask, 1 << place, base);
        }

        private int reserve(int many) {
            int base = outsUsed;
            outsUsed += many;
            if (outsUsed > outs.length) {
                outs = Arrays.copyOf(outs, Math.max(outsUsed, 2 * outs.length));
            }
            return base;
        }

        /** Writes the CHOICE as digits into the list, rising and each once. */
        private int digitsOf(int place) {
            int told = 0;
            int many = machine.choices();
            for (int i = 0; i < many; i++) {
                int d = space.digitOf(place, machine.choice(i));
                int at = told;
                while (at > 0 && list[at - 1] > d) {
                    at--;
                }
                if (d >= 0 && (at == 0 || list[at - 1] != d)) {
                    System.arraycopy(list, at, list, at + 1, told - at);
                    list[at] = d;
                    told++;
                }
            }
            return told;
        }

        private void addFactor(int nowMask, int thenMask, int base) {
            int row = factors.put(nowMask, thenMask, base, 0);
            factors.set(row, F_LEVEL, 31 - Integer.numberOfLeadingZeros(thenMask));
            refine(nowMask, base);
        }

        /** Parts the classes by what stands in outs for the valuations of a mask (or, base -1, by these). */
        private void refine(int mask, int base) {
            space.project(mask);
            Arrays.fill(buckets, -1);
            int number = 0;
            int fold = buckets.length - 1;
            for (int s = 0; s < space.total; s++) {
                int c = space.projected[s];
                int b = base < 0 ? c : outs[base + c];
                int a = classOf[s];
                int h = hashOf(a, b) & fold;
                for (int i = 0; i <= fold; i++) {
                    int id = buckets[h];
                    if (id < 0) {
                        keys[2 * number] = a;
                        keys[2 * number + 1] = b;
                        buckets[h] = number;
                        classOf[s] = number;
                        number++;
                        break;
                    }
                    if (keys[2 * id] == a && keys[2 * id + 1] == b) {
                        classOf[s] = id;
                        break;
                    }
                    h = h == fold ? 0 : h + 1;
                }
            }
        }

        private static int hashOf(int a, int b) {
            int h = a * 0x9E3779B1 + b * 0x85EBCA6B;
            return h ^ h >>> 15;
        }

        /** What stands on both sides of an outer & are pieces of their own. */
        void splitPieces() {
            Model model = space.model;
            for (int k = 0; k < pieces.size; k++) {
                for (int i = 0; i < TAPE_LIMIT; i++) {
                    int to = pieces.get(k, T_TO);
                    if (to <= pieces.get(k, T_FROM) || model.code.get(to - 1, 0) != OP_AND) {
                        break;
                    }
                    int middle = model.startOf(to - 2);
                    pieces.put(middle, to - 1, pieces.get(k, T_WHERE), -1);
                    pieces.set(k, T_TO, middle);
                }
            }
        }

        /** A piece next(x) = E or next(x) in {..} is reckoned as a CHOICE is, and is empty then. */
        void takeEquals() {
            Model model = space.model;
            for (int k = 0; k < pieces.size; k++) {
                int side = sideOfNext(k);
                if (side == 0) {
                    continue;
                }
                int from = pieces.get(k, T_FROM);
                int last = pieces.get(k, T_TO) - 1;
                int where = pieces.get(k, T_WHERE);
                int ref = model.code.get(side < 0 ? from : last - 1, 1);
                int place = model.variables.get(model.reach(ref, where), W_PLACE);
                machine.load(side < 0 ? from + 1 : from, side < 0 ? last : last - 1, where);
                boolean many = model.code.get(last, 0) == OP_IN;
                machine.add(many ? OP_SET : OP_ONE, many ? model.code.get(last, 1) : 0);
                if (place >= 0 && machine.mask() >>> BIT_LIMIT == 0 && fits(machine.mask(), 1)) {
                    takeChoices(place);
                    pieces.set(k, T_TO, from);
                }
            }
        }

        /** -1 if just next stands left of an outer = or in, 1 if right of =, else 0. */
        private int sideOfNext(int k) {
            Model model = space.model;
            int from = pieces.get(k, T_FROM);
            int last = pieces.get(k, T_TO) - 1;
            int op = model.code.get(last, 0);
            if (last < from || op != OP_EQ && op != OP_IN) {
                return 0;
            }
            int first = last - 1;
            for (int i = 1; i < partsOf(op, model.code.get(last, 1)); i++) {
                first = model.startOf(first) - 1;
            }
            if (first == from && model.code.get(from, 0) == OP_NEXT) {
                return -1;
            }
            return op == OP_EQ && model.code.get(last - 1, 0) == OP_NEXT ? 1 : 0;
        }

        private boolean fits(int nowMask, int span) {
            long cells = (long) space.sizeOver(nowMask) * span;
            return outsUsed + cells <= TABLE_LIMIT && outcomes.used + cells <= TABLE_LIMIT;
        }

        /** Other pieces have a table, if that is not more work than to look at the steps that are left. */
        void takePieces() {
            long steps = space.total;
            for (int p = 0; p < space.places; p++) {
                steps *= widest[p];
            }
            for (int k = 0; k < pieces.size; k++) {
                int from = pieces.get(k, T_FROM);
                int to = pieces.get(k, T_TO);
                if (to <= from) {
                    continue;
                }
                machine.load(from, to, pieces.get(k, T_WHERE));
                int nowMask = machine.mask() & NOW_SIDE;
                int thenMask = machine.mask() >>> BIT_LIMIT;
                int thenMany = space.sizeOver(thenMask);
                if (thenMask == 0) {
                    space.evaluate(-1, space.scratch);
                    space.keepCommon(alive, space.scratch);
                } else if ((long) space.sizeOver(nowMask) * thenMany > steps || !fits(nowMask, thenMany + 63 >> 6)) {
                    wide.put(from, to, pieces.get(k, T_WHERE), 0);
                } else {
                    takeTable(nowMask, thenMask, thenMany);
                }
            }
        }

        private void takeTable(int nowMask, int thenMask, int thenMany) {
            int base = reserve(space.sizeOver(nowMask));
            int turns = machine.rewind(machine.mask(), true);
            int root = machine.root();
            int c = base;
            int told = 0;
            int t = 0;
            for (int i = 0; i < turns; i++) {
                machine.run();
                for (int k = 0; k < machine.lanes; k++) {
                    if (machine.result(root, k) != 0) {
                        list[told] = t;
                        told++;
                    }
                    t++;
                    if (t == thenMany) {
                        outs[c] = outcomes.add(list, told, thenMany);
                        c++;
                        told = 0;
                        t = 0;
                    }
                }
                machine.turn();
            }
            addFactor(nowMask, thenMask, base);
        }

        /**
         * Pieces that look at too much for a table are reckoned together for each class: for all that
         * next can be at once, or, if the others leave few steps, for each of these.
         */
        void loadWide() {
            if (wide.size == 0) {
                return;
            }
            machine.open();
            for (int k = 0; k < wide.size; k++) {
                machine.need(wide.get(k, 0), wide.get(k, 1), wide.get(k, 2));
            }
            machine.settle();
            for (int k = 0; k < wide.size; k++) {
                machine.emit(wide.get(k, 0), wide.get(k, 1), wide.get(k, 2));
                if (k > 0) {
                    machine.add(OP_AND, 0);
                }
            }
            partByInputs();
            int thenMask = machine.mask() >>> BIT_LIMIT;
            long steps = 1;
            for (int p = 0; p < space.places; p++) {
                steps *= widest[p];
            }
            rollMask = steps * 8 > space.sizeOver(thenMask) ? thenMask : 0;
            rollTurns = machine.rewind(rollMask << BIT_LIMIT, true);
        }

        /** What wide pieces come to depends on their parts without next alone: classes are parted by these. */
        private void partByInputs() {
            int most = 64;
            for (int i = 0; i < machine.size && most > 0; i++) {
                for (int u = machine.useFrom[i]; u < machine.useFrom[i + 1] && machine.masks[i] >>> BIT_LIMIT != 0; u++) {
                    int input = machine.uses[u];
                    if (machine.masks[input] != 0 && machine.masks[input] >>> BIT_LIMIT == 0 && most > 0) {
                        partBy(input);
                        most--;
                    }
                }
            }
            if (most == 0) {
                refine(machine.mask() & NOW_SIDE, -1);
            }
        }

        private void partBy(int input) {
            int mask = machine.masks[input];
            int base = reserve(space.sizeOver(mask));
            int turns = machine.rewind(mask, true);
            int c = base;
            for (int i = 0; i < turns; i++) {
                machine.run();
                for (int k = 0; k < machine.lanes; k++) {
                    outs[c] = machine.result(input, k);
                    c++;
                }
                machine.turn();
            }
            refine(mask, base);
            outsUsed = base;
        }

        /** Makes the row of each class. */
        void weave() {
            chainFactors();
            int none = rows.add(list, 0, space.total);
            Arrays.fill(keys, 0, space.total + 1, -1);
            for (int s = 0; s < space.total; s++) {
                if (!has(alive, s)) {
                    rowOf[s] = none;
                } else {
                    if (keys[classOf[s]] < 0) {
                        keys[classOf[s]] = rowFrom(s);
                    }
                    rowOf[s] = keys[classOf[s]];
                }
            }
        }

        /** Factors of more than one VARIABLE are asked when the last of these gets its digit. */
        private void chainFactors() {
            Arrays.fill(levels, -1);
            free = wide.size == 0 ? 0 : rollMask == 0 ? space.places : 32 - Integer.numberOfLeadingZeros(rollMask);
            for (int f = 0; f < factors.size; f++) {
                int level = factors.get(f, F_LEVEL);
                if (level >= 0) {
                    free = Math.max(free, level + 1);
                    factors.set(f, F_CHAIN, levels[level]);
                    levels[level] = f;
                }
            }
        }

        private int rowFrom(int state) {
            for (int k = 0; k < space.places; k++) {
                digits[k] = space.digit(state, k);
                optionCount[k] = -1;
                if (wide.size > 0) {
                    machine.hold(k, digits[k]);
                }
            }
            for (int f = 0; f < factors.size; f++) {
                int outcome = outs[factors.get(f, F_BASE) + indexOf(factors.get(f, F_NOW))];
                factors.set(f, F_OUTCOME, outcome);
                int level = factors.get(f, F_LEVEL);
                if (factors.get(f, F_THEN) == 1 << level) {
                    narrowOptions(level, outcome);
                }
            }
            for (int k = 0; k < free; k++) {
                if (optionCount[k] < 0) {
                    allOptions(k);
                }
            }
            if (rollMask != 0) {
                rollOn();
            }
            boolean alone = rollMask != 0 && rollMask == (1 << space.places) - 1 && factors.size == 0;
            return rows.add(list, alone ? listRoll() : extend(0, 0, 0), space.total);
        }

        /** What next can be by the wide pieces, as bits. */
        private void rollOn() {
            int root = machine.root();
            int lanes = machine.lanes;
            Arrays.fill(roll, 0, rollTurns * lanes + 63 >> 6, 0L);
            int c = 0;
            for (int i = 0; i < rollTurns; i++) {
                machine.run();
                for (int k = 0; k < lanes; k++) {
                    roll[c >> 6] |= (long) machine.result(root, k) << c;
                    c++;
                }
                machine.turn();
            }
        }

        /** The row when the wide pieces say all. */
        private int listRoll() {
            int told = 0;
            for (int t = 0; t < space.total; t++) {
                if ((roll[t >> 6] & space.every[t >> 6] & 1L << t) != 0) {
                    list[told] = t;
                    told++;
                }
            }
            return told;
        }

        private int indexOf(int mask) {
            int index = 0;
            for (int k = 0; k < space.places; k++) {
                if ((mask >>> k & 1) != 0) {
                    index = index * space.size[k] + digits[k];
                }
            }
            return index;
        }

        private void allOptions(int place) {
            optionCount[place] = space.size[place];
            for (int d = 0; d < space.size[place]; d++) {
                options[space.first[place] + d] = d;
            }
        }

        private void narrowOptions(int place, int outcome) {
            int from = space.first[place];
            if (optionCount[place] < 0) {
                optionCount[place] = outcomes.spell(outcome, options, from);
                return;
            }
            int left = 0;
            for (int i = 0; i < optionCount[place]; i++) {
                int d = options[from + i];
                if (outcomes.contains(outcome, d)) {
                    options[from + left] = d;
                    left++;
                }
            }
            optionCount[place] = left;
        }

        /** Lists, in the ORDER, the STATES that all factors leave; the depth is that of the places. */
        private int extend(int place, int state, int listed) {
            int told = listed;
            if (place >= free || place >= BIT_LIMIT) {
                int end = state + (place == 0 ? space.total : space.stride[place - 1]);
                if (wide.size > 0 && rollMask == 0 && has(space.every, state)) {
                    for (int k = 0; k < space.places; k++) {
                        machine.hold(BIT_LIMIT + k, digits[k]);
                    }
                    machine.run();
                    end = machine.result(machine.root(), 0) != 0 ? end : state;
                }
                for (int t = state; t < end; t++) {
                    if (has(space.every, t)) {
                        list[told] = t;
                        told++;
                    }
                }
                return told;
            }
            int from = space.first[place];
            boolean rolled = (rollMask >>> place & 1) != 0;
            for (int i = 0; i < optionCount[place]; i++) {
                int d = options[from + i];
                digits[place] = d;
                rollIndex[place + 1] = rolled ? rollIndex[place] * space.size[place] + d : rollIndex[place];
                if (isLeft(place)) {
                    told = extend(place + 1, state + d * space.stride[place], told);
                }
            }
            return told;
        }

        private boolean isLeft(int place) {
            if (rollMask >>> place == 1 && !has(roll, rollIndex[place + 1])) {
                return false;
            }
            int f = levels[place];
            for (int i = 0; i < factors.size && f >= 0; i++) {
                int mask = factors.get(f, F_THEN);
                if (mask != 1 << place && !outcomes.contains(factors.get(f, F_OUTCOME), indexOf(mask))) {
                    return false;
                }
                f = factors.get(f, F_CHAIN);
            }
            return true;
        }
    }

    /** Paths over the rows of a relation: what can be reached, kept up for ever, or led to. */
    static final class Graph {
        private final Space space;
        private final Relation relation;
        private final long[] fairStates = new long[WORD_LIMIT];
        private final long[] reached = new long[WORD_LIMIT];
        private final long[] unseen = new long[WORD_LIMIT];
        private final long[] piled = new long[WORD_LIMIT];
        private final long[] around = new long[WORD_LIMIT];
        private final long[] among = new long[WORD_LIMIT];
        private int[] memberFrom = new int[65];
        private int[] members = new int[64];
        private int[] index = new int[64];
        private int[] low = new int[64];
        private int[] cursor = new int[64];
        private int[] path = new int[64];
        private int[] pile = new int[64];
        private int[] queue = new int[64];
        private int[] parent = new int[64];
        private int pathSize;
        private int pileSize;
        private int entered;
        private int told;

        Graph(Space of, Relation over) {
            space = of;
            relation = over;
        }

        void build() {
            int number = relation.rows.number;
            memberFrom = fit(memberFrom, number + 2);
            index = fit(index, number);
            low = fit(low, number);
            cursor = fit(cursor, number);
            path = fit(path, number);
            pile = fit(pile, number);
            members = fit(members, space.total);
            queue = fit(queue, space.total + 1);
            parent = fit(parent, space.total);
            sortByRow(number);
            spreadOut();
            System.arraycopy(space.every, 0, among, 0, space.words);
            Arrays.fill(fairStates, 0, space.words, 0L);
            sweep(fairStates, true);
        }

        /** Lays the STATES that share a row side by side. */
        private void sortByRow(int number) {
            Arrays.fill(memberFrom, 0, number + 2, 0);
            for (int s = 0; s < space.total; s++) {
                memberFrom[relation.rowOf[s] + 2]++;
            }
            for (int row = 2; row <= number; row++) {
                memberFrom[row] += memberFrom[row - 1];
            }
            for (int s = 0; s < space.total; s++) {
                int row = relation.rowOf[s];
                members[memberFrom[row + 1]] = s;
                memberFrom[row + 1]++;
            }
        }

        private void spreadOut() {
            System.arraycopy(space.initial, 0, reached, 0, space.words);
            for (int w = 0; w < space.words; w++) {
                unseen[w] = space.every[w] & ~reached[w];
            }
            int tail = 0;
            for (int s = 0; s < space.total; s++) {
                if (has(reached, s)) {
                    queue[tail] = s;
                    tail++;
                }
            }
            Arrays.fill(index, 0, relation.rows.number, 0);
            for (int head = 0; head < tail; head++) {
                tail = open(queue[head], tail, null);
            }
            for (int i = 0; i < tail; i++) {
                reached[queue[i] >> 6] |= 1L << queue[i];
            }
        }

        /** Queues what is unseen behind a state, in the ORDER; told is the first of goal among it, or -1. */
        private int open(int state, int tail, long[] goal) {
            int row = relation.rowOf[state];
            told = -1;
            if (index[row] != 0) {
                return tail;
            }
            index[row] = 1;
            int end = tail;
            int place = relation.rows.next(row, 0, unseen);
            for (int i = 0; i < space.total && place >= 0; i++) {
                int t = relation.rows.at(row, place);
                unseen[t >> 6] &= ~(1L << t);
                parent[t] = state;
                if (goal != null && has(goal, t)) {
                    told = t;
                    return end;
                }
                queue[end] = t;
                end++;
                place = relation.rows.next(row, place + 1, unseen);
            }
            return end;
        }

        /**
         * The LEAST PATH of one step or more through a set to a goal: what comes first in the queue
         * has come there by the first of the shortest ways. Writes it behind start into trail.
         */
        int lead(int start, long[] through, long[] goal, int[] trail, int from) {
            for (int w = 0; w < space.words; w++) {
                unseen[w] = through[w] | goal[w];
            }
            if (!has(goal, start)) {
                unseen[start >> 6] &= ~(1L << start);
            }
            Arrays.fill(index, 0, relation.rows.number, 0);
            queue[0] = start;
            told = -1;
            int tail = 1;
            for (int head = 0; head < tail && told < 0; head++) {
                tail = open(queue[head], tail, goal);
            }
            return told < 0 ? 0 : writeTrail(start, told, trail, from);
        }

        private int writeTrail(int start, int last, int[] trail, int from) {
            int many = 1;
            for (int s = parent[last]; s != start && many <= space.total; s = parent[s]) {
                many++;
            }
            int s = last;
            for (int i = many - 1; i >= 0; i--) {
                if (from + i < trail.length) {
                    trail[from + i] = s;
                }
                s = parent[s];
            }
            return many;
        }

        /** What EX, EU or EG make of sets, by FAIR PATHS; out may be one of these. */
        void reckon(int op, long[] through, long[] goal, long[] out) {
            for (int w = 0; w < space.words; w++) {
                long there = op == OP_EG ? 0L : goal[w] & fairStates[w];
                among[w] = op == OP_EX ? there : through[w] & ~there;
                out[w] = there;
            }
            if (op != OP_EX) {
                sweep(out, op == OP_EG);
                return;
            }
            for (int row = 0; row < relation.rows.number; row++) {
                index[row] = relation.rows.meets(row, among) ? 1 : 0;
            }
            Arrays.fill(out, 0, space.words, 0L);
            for (int s = 0; s < space.total; s++) {
                out[s >> 6] |= (long) index[relation.rowOf[s]] << s;
            }
        }

        /**
         * Adds to good what leads through among into good; or, endless, into a ring in among with
         * each FAIRNESS in it. Rows are the nodes here, and those that lead to each other are
         * found together, the last ones first.
         */
        private void sweep(long[] good, boolean endless) {
            System.arraycopy(among, 0, unseen, 0, space.words);
            Arrays.fill(piled, 0, space.words, 0L);
            Arrays.fill(around, 0, space.words, 0L);
            entered = 0;
            pileSize = 0;
            pathSize = 0;
            int bound = 2 * relation.rows.number + 2;
            for (int s = 0; s < space.total; s++) {
                if (has(unseen, s)) {
                    enter(relation.rowOf[s]);
                }
                for (int i = 0; i < bound && pathSize > 0; i++) {
                    int row = path[pathSize - 1];
                    int place = relation.rows.next(row, cursor[row], unseen);
                    if (place >= 0) {
                        cursor[row] = place;
                        enter(relation.rowOf[relation.rows.at(row, place)]);
                    } else if (leave(row)) {
                        settle(row, good, endless);
                    }
                }
            }
        }

        private void enter(int row) {
            entered++;
            index[row] = entered;
            low[row] = entered;
            cursor[row] = 0;
            path[pathSize] = row;
            pathSize++;
            pile[pileSize] = row;
            pileSize++;
            for (int i = memberFrom[row]; i < memberFrom[row + 1]; i++) {
                int s = members[i];
                if (has(among, s)) {
                    unseen[s >> 6] &= ~(1L << s);
                    piled[s >> 6] |= 1L << s;
                }
            }
        }

        /** Whether no way leads from a row to one that was entered before it and is still open. */
        private boolean leave(int row) {
            pathSize--;
            int lowest = low[row];
            int place = relation.rows.next(row, 0, piled);
            for (int i = 0; i < space.total && place >= 0 && lowest > index[pile[0]]; i++) {
                lowest = Math.min(lowest, index[relation.rowOf[relation.rows.at(row, place)]]);
                place = relation.rows.next(row, place + 1, piled);
            }
            low[row] = lowest;
            if (pathSize > 0) {
                int above = path[pathSize - 1];
                low[above] = Math.min(low[above], lowest);
            }
            return lowest == index[row];
        }

        /** The pile from a row on is one ring, or one row without a way back. */
        private void settle(int row, long[] good, boolean endless) {
            int from = pileSize - 1;
            while (from > 0 && pile[from] != row) {
                from--;
            }
            boolean fine = false;
            for (int k = from; k < pileSize && !fine; k++) {
                fine = relation.rows.meets(pile[k], good);
            }
            if (!fine && endless) {
                fine = isFairRing(from);
            }
            for (int k = from; k < pileSize; k++) {
                for (int i = memberFrom[pile[k]]; i < memberFrom[pile[k] + 1]; i++) {
                    int s = members[i];
                    if (has(among, s)) {
                        piled[s >> 6] &= ~(1L << s);
                        good[s >> 6] |= fine ? 1L << s : 0L;
                    }
                }
            }
            pileSize = from;
        }

        private boolean isFairRing(int from) {
            for (int k = from; k < pileSize; k++) {
                mark(pile[k], true);
            }
            int tail = 0;
            for (int k = from; k < pileSize; k++) {
                int place = relation.rows.next(pile[k], 0, around);
                for (int i = 0; i < space.total && place >= 0; i++) {
                    int t = relation.rows.at(pile[k], place);
                    around[t >> 6] &= ~(1L << t);
                    queue[tail] = t;
                    tail++;
                    place = relation.rows.next(pile[k], place + 1, around);
                }
            }
            for (int k = from; k < pileSize; k++) {
                mark(pile[k], false);
            }
            boolean fine = tail > 0;
            for (int f = 0; f < space.fairCount && fine; f++) {
                fine = isAmongQueued(space.fair[f], tail);
            }
            return fine;
        }

        private void mark(int row, boolean on) {
            for (int i = memberFrom[row]; i < memberFrom[row + 1]; i++) {
                int s = members[i];
                around[s >> 6] &= ~(1L << s);
                around[s >> 6] |= on ? among[s >> 6] & 1L << s : 0L;
            }
        }

        private boolean isAmongQueued(long[] set, int tail) {
            for (int i = 0; i < tail; i++) {
                if ((set[queue[i] >> 6] >>> queue[i] & 1L) != 0) {
                    return true;
                }
            }
            return false;
        }
    }

    /** Answers what is asked about SPECS and STATES. */
    static final class Prover {
        private static final int KEPT = 64;

        private final Space space;
        private final Relation relation;
        private final Graph graph;
        private Model model;
        private final Rows items = new Rows(2, 32);
        private final long[][] sets = new long[2 * HEIGHT_LIMIT + 8][];
        private int setCount;
        private final long[] spare = new long[WORD_LIMIT];
        private final long[][] kept = new long[KEPT][];
        private final int[] keptSpec = new int[KEPT];
        private final int[] trail = new int[SHOWN_LIMIT + 1];
        private final int[] shown = new int[SHOWN_LIMIT];
        private int shownCount;
        private int loop = -1;
        private int trailLoop;
        private int strayPaths;

        Prover(Space in, Relation by, Graph over) {
            space = in;
            relation = by;
            graph = over;
        }

        void begin(Model of) {
            model = of;
            shownCount = 0;
            loop = -1;
            Arrays.fill(keptSpec, -1);
        }

        int tally(int what, int spec) {
            long[] set = what == 0 ? space.every : what == 1 ? space.initial : what == 5 ? kept[spec % KEPT] : graph.reached;
            int many = 0;
            for (int s = 0; s < space.total; s++) {
                if (has(set, s) && (what != 3 || has(graph.fairStates, s)) && (what != 4 || followers(s) == 0)) {
                    many++;
                }
            }
            return many;
        }

        int followers(int state) {
            return relation.rows.sizeOf(relation.rowOf[state]);
        }

        int initialState(int n) {
            int left = n;
            for (int s = 0; s < space.total; s++) {
                if (has(space.initial, s)) {
                    if (left == 0) {
                        return s;
                    }
                    left--;
                }
            }
            return -1;
        }

        int follower(int state, int n) {
            int row = relation.rowOf[state];
            if (n >= relation.rows.sizeOf(row)) {
                return -1;
            }
            relation.rows.spell(row, relation.list, 0);
            return relation.list[n];
        }

        /** What value tells: a SYMBOL by its place, a number by itself. */
        int worthOf(int variable, int state) {
            int place = model.variables.get(variable, W_PLACE);
            int digit = place < 0 ? 0 : space.digit(state, place);
            int varRow = model.variables.get(variable, W_VAR);
            return model.sortOf(varRow) == SORT_SYMBOL ? digit : model.worth(varRow, digit);
        }

        boolean isTrueIn(int spec, int state) {
            return has(kept[spec % KEPT], state);
        }

        boolean holdsAtStart(int spec) {
            long[] truth = kept[spec % KEPT];
            for (int w = 0; w < space.words; w++) {
                if ((space.initial[w] & ~truth[w]) != 0) {
                    return false;
                }
            }
            return true;
        }

        boolean isKept(int spec) {
            return keptSpec[spec % KEPT] == spec;
        }

        /** Keeps what was solved last as the STATES that have a SPEC. */
        void keep(int spec) {
            int k = spec % KEPT;
            if (kept[k] == null || kept[k].length < space.words) {
                kept[k] = new long[space.words];
            }
            System.arraycopy(sets[0], 0, kept[k], 0, space.words);
            keptSpec[k] = spec;
        }

        /**
         * Finds the STATES with an E and leaves them in the set of a number. Parts without EX .. are
         * reckoned whole, when an operator asks for their set; the end asks like one of one part.
         */
        void solve(int from, int to, int where, int number) {
            items.clear();
            setCount = number;
            for (int i = from; i <= to; i++) {
                int op = i < to ? model.code.get(i, 0) : OP_NOT;
                int parts = partsOf(op, model.code.get(i, 1));
                int base = Math.max(0, items.size - parts);
                int start = parts == 0 ? i : items.get(base, 0);
                int set = -1;
                if (i == to || isTimed(op) || hasSet(base)) {
                    for (int k = base; k < items.size; k++) {
                        if (items.get(k, 1) < 0) {
                            space.machine.load(items.get(k, 0), k + 1 < items.size ? items.get(k + 1, 0) : i, where);
                            items.set(k, 1, newSet());
                            space.evaluate(-1, sets[items.get(k, 1)]);
                        }
                    }
                    int left = items.get(base, 1);
                    int right = items.get(items.size - 1, 1);
                    set = Math.min(left, right);
                    setCount = set + 1;
                    if (isTimed(op)) {
                        prepare(op, sets[left], sets[right], sets[set]);
                        graph.reckon(plainOf(op), spare, sets[set], sets[set]);
                        if (op == OP_AU) {
                            graph.reckon(OP_EG, spare, spare, spare);
                        }
                        finish(op, sets[set]);
                    } else if (i < to) {
                        join(op, sets[left], sets[right], sets[set]);
                    }
                }
                items.cut(base);
                items.put(start, set, 0, 0);
            }
            space.keepCommon(sets[number], space.every);
        }

        private boolean hasSet(int base) {
            for (int k = base; k < items.size; k++) {
                if (items.get(k, 1) >= 0) {
                    return true;
                }
            }
            return false;
        }

        private int newSet() {
            int set = Math.min(setCount, sets.length - 1);
            if (sets[set] == null) {
                sets[set] = new long[WORD_LIMIT];
            }
            setCount = set + 1;
            return set;
        }

        /** Which of EX, E [ ] and EG an operator is reckoned by. */
        private static int plainOf(int op) {
            if (op == OP_EX || op == OP_AX) {
                return OP_EX;
            }
            return op == OP_EG || op == OP_AF ? OP_EG : OP_EU;
        }

        /** Lays out in spare what the PATH goes through, and in out what it goes to. */
        private void prepare(int op, long[] a, long[] b, long[] out) {
            boolean not = op == OP_AX || op == OP_AF || op == OP_AG;
            for (int w = 0; w < space.words; w++) {
                long every = space.every[w];
                long first = (not ? ~a[w] : a[w]) & every;
                long second = b[w] & every;
                if (op == OP_EU) {
                    spare[w] = first;
                    out[w] = second;
                } else if (op == OP_AU) {
                    spare[w] = every & ~second;
                    out[w] = every & ~second & ~first;
                } else {
                    spare[w] = op == OP_EG || op == OP_AF ? first : every;
                    out[w] = first;
                }
            }
        }

        private void finish(int op, long[] out) {
            for (int w = 0; w < space.words; w++) {
                if (op == OP_AU) {
                    out[w] = space.every[w] & ~(out[w] | spare[w]);
                } else if (op == OP_AX || op == OP_AF || op == OP_AG) {
                    out[w] = space.every[w] & ~out[w];
                }
            }
        }

        private void join(int op, long[] a, long[] b, long[] out) {
            for (int w = 0; w < space.words; w++) {
                switch (op) {
                    case OP_IFF:
                        out[w] = ~(a[w] ^ b[w]);
                        break;
                    case OP_IMP:
                        out[w] = ~a[w] | b[w];
                        break;
                    case OP_OR:
                        out[w] = a[w] | b[w];
                        break;
                    case OP_XOR:
                        out[w] = a[w] ^ b[w];
                        break;
                    case OP_AND:
                        out[w] = a[w] & b[w];
                        break;
                    default:
                        out[w] = ~a[w];
                        break;
                }
            }
        }

        private int outerOf(int spec) {
            return model.code.get(model.specs.get(spec, 1) - 1, 0);
        }

        private static boolean isShownFalse(int op) {
            return op == OP_AX || op == OP_AF || op == OP_AG;
        }

        /** The first INITIAL STATE from which a SPEC can be shown, or -1. */
        int startToShow(int spec) {
            int op = outerOf(spec);
            if (!isTimed(op) || op == OP_AU) {
                return -1;
            }
            for (int s = 0; s < space.total; s++) {
                if (has(space.initial, s) && has(kept[spec % KEPT], s) != isShownFalse(op)) {
                    return s;
                }
            }
            return -1;
        }

        /** Finds what a SPEC is shown by: the set to stay in or go through, and the set to go to. */
        void aim(int spec) {
            int op = outerOf(spec);
            int from = model.specs.get(spec, 0);
            int last = model.specs.get(spec, 1) - 1;
            int where = model.specs.get(spec, 2);
            int middle = op == OP_EU ? model.startOf(last - 1) : from;
            solve(middle, last, where, 0);
            if (op == OP_EU) {
                solve(from, middle, where, 1);
            } else {
                setCount = 1;
                newSet();
            }
            long[] goal = sets[0];
            long[] through = sets[1];
            long[] truth = kept[spec % KEPT];
            for (int w = 0; w < space.words; w++) {
                long every = space.every[w];
                goal[w] = (isShownFalse(op) ? ~goal[w] : goal[w]) & graph.fairStates[w];
                if (op == OP_EG || op == OP_AF) {
                    through[w] = op == OP_EG ? truth[w] : every & ~truth[w];
                } else if (op == OP_EX || op == OP_AX) {
                    through[w] = 0;
                } else if (op != OP_EU) {
                    through[w] = every;
                }
            }
        }

        /** Shows a SPEC from a STATE on; how many STATES that are; above the limit nothing changes. */
        int display(int spec, int start) {
            int op = outerOf(spec);
            boolean atOnce = op == OP_EU || op == OP_EF || op == OP_AG;
            trail[0] = start;
            trailLoop = -1;
            int many = 1;
            if (op == OP_EG || op == OP_AF) {
                many = ring();
            } else if (!atOnce || !has(sets[0], start)) {
                many = 1 + graph.lead(start, sets[1], sets[0], trail, 1);
            }
            if (many <= SHOWN_LIMIT) {
                System.arraycopy(trail, 0, shown, 0, many);
                shownCount = many;
                loop = trailLoop;
                watch();
            }
            return many;
        }

        /** The way through all FAIRNESS, again from its end if none leads back, till one does. */
        private int ring() {
            long[] goal = sets[0];
            long[] within = sets[1];
            int many = 1;
            for (int round = 0; round <= SHOWN_LIMIT && many <= SHOWN_LIMIT; round++) {
                int begun = many - 1;
                many = visitFairness(many);
                if (many > SHOWN_LIMIT) {
                    break;
                }
                Arrays.fill(goal, 0, space.words, 0L);
                goal[trail[begun] >> 6] |= 1L << trail[begun];
                int back = graph.lead(trail[many - 1], within, goal, trail, many);
                if (back > 0) {
                    trailLoop = begun;
                    return many + back - 1;
                }
            }
            return many;
        }

        private int visitFairness(int told) {
            long[] goal = sets[0];
            long[] within = sets[1];
            int many = told;
            int rounds = Math.max(1, space.fairCount);
            for (int f = 0; f < rounds && many <= SHOWN_LIMIT; f++) {
                for (int w = 0; w < space.words; w++) {
                    goal[w] = space.fairCount == 0 ? within[w] : within[w] & space.fair[f][w];
                }
                many += graph.lead(trail[many - 1], within, goal, trail, many);
            }
            return many;
        }

        /** A path that is shown must GO; what does not is counted. */
        private void watch() {
            for (int i = 0; i + 1 < shownCount; i++) {
                if (!relation.rows.contains(relation.rowOf[shown[i]], shown[i + 1])) {
                    strayPaths++;
                    return;
                }
            }
        }
    }
}
