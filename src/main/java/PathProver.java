import java.util.Arrays;

/**
 * A checker of finite systems against branching time. A system has at most 2 to the 14 STATES, so
 * sets of them are held as bits, one for each valuation in the ORDER. STATES that GO to the same
 * STATES share one row of them, kept in a store with a bound; what it has no room for is made again.
 */
public final class PathProver {

    private static final int TAPE_LIMIT = 65536;
    private static final int FED_BYTES = 20;
    private static final int NESTING_LIMIT = 150;
    private static final int INSTANCE_LIMIT = 200;
    private static final int ENTRY_LIMIT = 4000;
    private static final int HEIGHT_LIMIT = 120;
    private static final int BIT_LIMIT = 14;
    private static final int WORD_LIMIT = 256;
    private static final int SHOWN_LIMIT = 2000;
    private static final int STEP_LIMIT = 1 << 30;
    // Rows with a place for each valuation have one of three lengths, so that they are seldom made anew.
    private static final int FIRST_SPACE = 60;
    private static final int SMALL_SPACE = 1 << 10;
    private static final int FULL_SPACE = 1 << BIT_LIMIT;

    // Kept words have their place in this text as their number; main is known, but a NAME.
    private static final String KNOWN_WORDS = "MODULE VAR DEFINE ASSIGN INIT INVAR TRANS FAIRNESS SPEC init next boolean xor EX EF EG AX AF AG E A U in mod case esac TRUE FALSE main ";
    private static final int K_MODULE = 0;
    private static final int K_VAR = 1;
    private static final int K_DEFINE = 2;
    private static final int K_INIT = 4;
    private static final int K_INVAR = 5;
    private static final int K_TRANS = 6;
    private static final int K_FAIRNESS = 7;
    private static final int K_SPEC = 8;
    private static final int K_INIT_OF = 9;
    private static final int K_NEXT = 10;
    private static final int K_BOOLEAN = 11;
    private static final int K_XOR = 12;
    private static final int K_EX = 13;
    private static final int K_AG = 18;
    private static final int K_E = 19;
    private static final int K_A = 20;
    private static final int K_U = 21;
    private static final int K_IN = 22;
    private static final int K_MOD = 23;
    private static final int K_CASE = 24;
    private static final int K_ESAC = 25;
    private static final int K_TRUE = 26;
    private static final int K_FALSE = 27;
    private static final int NAME_MAIN = 28;

    private static final String SINGLE_SIGNS = "(){}[],;:.!&|=<>+-*/";
    private static final int S_OPEN = 64;
    private static final int S_CLOSE = 65;
    private static final int S_BRACE = 66;
    private static final int S_UNBRACE = 67;
    private static final int S_BRACKET = 68;
    private static final int S_UNBRACKET = 69;
    private static final int S_COMMA = 70;
    private static final int S_END = 71;
    private static final int S_COLON = 72;
    private static final int S_DOT = 73;
    private static final int S_NOT = 74;
    private static final int S_AND = 75;
    private static final int S_OR = 76;
    private static final int S_EQ = 77;
    private static final int S_LT = 78;
    private static final int S_GT = 79;
    private static final int S_PLUS = 80;
    private static final int S_MINUS = 81;
    private static final int S_TIMES = 82;
    private static final int S_OVER = 83;
    private static final String DOUBLE_SIGNS = "->:=..!=<=>=";
    private static final int S_IMP = 96;
    private static final int S_BECOMES = 97;
    private static final int S_TO = 98;
    private static final int S_NE = 99;
    private static final int S_LE = 100;
    private static final int S_GE = 101;
    private static final int S_IFF = 102;
    private static final int T_NAME = 112;
    private static final int T_NUMBER = 113;
    private static final int T_END = 114;
    private static final int T_NONE = 115;

    // An E is kept with each operator behind its parts.
    private static final int OP_TRUTH = 0;
    private static final int OP_NUMBER = 1;
    private static final int OP_NAME = 2;
    private static final int OP_NEXT = 3;
    private static final int OP_IFF = 4;
    private static final int OP_IMP = 5;
    private static final int OP_OR = 6;
    private static final int OP_XOR = 7;
    private static final int OP_AND = 8;
    private static final int OP_NOT = 9;
    private static final int OP_EX = 10;
    private static final int OP_EF = 11;
    private static final int OP_EG = 12;
    private static final int OP_AX = 13;
    private static final int OP_AF = 14;
    private static final int OP_AG = 15;
    private static final int OP_EQ = 16;
    private static final int OP_NE = 17;
    private static final int OP_LT = 18;
    private static final int OP_LE = 19;
    private static final int OP_GT = 20;
    private static final int OP_GE = 21;
    private static final int OP_ADD = 22;
    private static final int OP_SUB = 23;
    private static final int OP_MUL = 24;
    private static final int OP_DIV = 25;
    private static final int OP_MOD = 26;
    private static final int OP_NEG = 27;
    private static final int OP_EU = 28;
    private static final int OP_AU = 29;
    private static final int OP_IN = 30;
    private static final int OP_CASE = 31;
    private static final int OP_ONE = 32;
    private static final int OP_SET = 33;
    private static final int OP_PICK = 34;

    // What the parser is inside of; these stand on its stack among the operators.
    private static final int IN_CLAIM = 40;
    private static final int IN_DEFINE = 41;
    private static final int IN_GIVEN = 42;
    private static final int IN_LINE = 43;
    private static final int IN_PAREN = 44;
    private static final int IN_UNTIL = 45;
    private static final int IN_GOAL = 46;
    private static final int IN_LIST = 47;
    private static final int IN_COND = 48;
    private static final int IN_THEN = 49;
    private static final int IN_SET = 50;
    private static final int IN_ONE = 51;
    private static final int IN_PICK_COND = 52;
    private static final int IN_PICK_THEN = 53;

    private static final int[] LEVEL = {
        0, 0, 0, 0, 1, 2, 3, 3, 4, 5, 5, 5, 5, 5, 5, 5, 6, 6, 6, 6, 6, 6, 7, 7, 8, 8, 8, 9, 0, 0,
        0, 0, 0, 0, 0, 0, 0, 0, 0, 0, 0, 0, 0, 0, 0, 0, 0, 0, 0, 0, 0, 0, 0, 0};
    private static final int LEVEL_IMP = 2;
    private static final int LEVEL_AND = 4;
    private static final int LEVEL_PREFIX = 5;
    private static final int LEVEL_COMPARE = 6;
    private static final int LEVEL_ALL = 9;

    // What the parser is to do next.
    private static final int WANT_MODULE = 0;
    private static final int WANT_SECTION = 1;
    private static final int WANT_VAR = 2;
    private static final int WANT_DEFINE = 3;
    private static final int WANT_LINE = 4;
    private static final int WANT_P = 5;
    private static final int WANT_F = 6;
    private static final int WANT_CHOICE = 7;
    private static final int HAVE_PART = 8;
    private static final int HAVE_CHOICE = 9;
    private static final int DONE = 10;

    private static final int SORT_TRUTH = 1;
    private static final int SORT_NUMBER = 2;
    private static final int SORT_SYMBOL = 3;
    private static final int SORT_TIMED = 9;

    private static final int TYPE_BOOLEAN = 0;
    private static final int TYPE_RANGE = 1;
    private static final int TYPE_LIST = 2;
    private static final int TYPE_MODULE = 3;

    private static final int IS_NOTHING = 0;
    private static final int IS_PARAM = 1;
    private static final int IS_DEFINE = 2;
    private static final int IS_VARIABLE = 3;
    private static final int IS_INSTANCE = 4;
    private static final int IS_SYMBOL = 5;
    private static final int IS_MODULE = 6;

    private static final int FORM_ALONE = 1;
    private static final int FORM_INIT = 2;
    private static final int FORM_NEXT = 4;

    private static final int ALLOW_NONE = 0;
    private static final int ALLOW_NEXT = 1;
    private static final int ALLOW_TIMED = 2;

    private static final int FINE = 0;
    private static final int UNSOUND = 1;
    private static final int TOO_MUCH = 2;

    // Columns of the tables of a MODEL.
    private static final int M_NAME = 0;
    private static final int M_PARAMS = 1;
    private static final int M_VARS = 2;
    private static final int M_DEFS = 3;
    private static final int M_LINES = 4;
    private static final int M_CLAIMS = 5;
    private static final int M_REFS = 6;
    private static final int M_USED = 7;
    private static final int M_DONE = 8;
    private static final int M_INSTANCES = 9;
    private static final int M_ENTRIES = 10;
    private static final int V_NAME = 0;
    private static final int V_TYPE = 1;
    private static final int V_A = 2;
    private static final int V_B = 3;
    private static final int V_MODULE = 4;
    private static final int V_FORMS = 5;
    private static final int R_START = 0;
    private static final int R_LENGTH = 1;
    private static final int R_KIND = 2;
    private static final int R_TARGET = 3;
    private static final int D_NAME = 0;
    private static final int C_KIND = 0;
    private static final int L_FORM = 0;
    private static final int L_VAR = 1;
    private static final int L_FROM = 2;
    private static final int L_TO = 3;
    private static final int I_MODULE = 0;
    private static final int I_SLOTS = 1;
    private static final int I_ENTRIES = 2;
    private static final int I_PARAMS = 3;
    private static final int E_FROM = 0;
    private static final int E_TO = 1;
    private static final int E_WHERE = 2;
    private static final int E_HEIGHT = 3;
    private static final int E_SORT = 4;
    private static final int E_SEEN = 5;
    private static final int T_FROM = 0;
    private static final int T_TO = 1;
    private static final int T_WHERE = 2;
    private static final int T_VARIABLE = 3;
    private static final int T_STAGE = 4;
    private static final int FAIR_SET = 3;
    private static final int W_VAR = 0;
    private static final int W_SIZE = 1;
    private static final int W_PLACE = 2;
    private static final int W_ONLY = 3;

    // Each VARIABLE of more than one VALUE has two sides, now and next.
    private static final int SIDES = 2 * BIT_LIMIT;

    private byte[] tape;
    private int length;
    private int place;
    private boolean hasModel;
    private Model model;
    private Model spare;
    private final Parser parser;
    private final Judge judge;
    private final Space space;
    private final Relation relation;
    private final Graph graph;
    private final Prover prover;
    private boolean isReady;
    private int current;

    public PathProver() {
        tape = new byte[256];
        place = -1;
        model = new Model();
        spare = new Model();
        parser = new Parser();
        judge = new Judge();
        space = new Space();
        relation = new Relation(space);
        graph = new Graph(space, relation);
        prover = new Prover(space, graph);
        current = -1;
    }

    public int feed(int a, int b, int c, int d, int e) throws IndexOutOfBoundsException {
        if (length + FED_BYTES > TAPE_LIMIT) {
            throw new IndexOutOfBoundsException();
        }
        if (length + FED_BYTES > tape.length) {
            tape = Arrays.copyOf(tape, Math.min(2 * tape.length, TAPE_LIMIT));
        }
        write(a);
        write(b);
        write(c);
        write(d);
        write(e);
        return length;
    }

    private void write(int four) {
        for (int shift = 24; shift >= 0; shift -= 8) {
            tape[length] = (byte) (four >> shift);
            length++;
        }
    }

    public int end(int n) throws IllegalArgumentException {
        if (n < 0 || n > length) {
            throw new IllegalArgumentException();
        }
        length = n;
        return n;
    }

    public int read() throws IllegalArgumentException, UnsupportedOperationException, IndexOutOfBoundsException {
        int bytes = length;
        length = 0;
        place = parser.parse(spare, tape, bytes);
        if (place >= 0) {
            throw new IllegalArgumentException();
        }
        int verdict = judge.verdict(spare);
        if (verdict == UNSOUND) {
            throw new UnsupportedOperationException();
        }
        if (verdict == TOO_MUCH) {
            throw new IndexOutOfBoundsException();
        }
        Model before = model;
        model = spare;
        spare = before;
        hasModel = true;
        isReady = false;
        current = -1;
        space.begin(model);
        prover.begin();
        return model.specs.size;
    }

    public int place() {
        return place;
    }

    public boolean check(int i) throws IllegalArgumentException, IllegalStateException {
        needNumber(i, model.specs.size);
        needModel();
        ready();
        drive();
        prover.ask(i);
        drive();
        return prover.holdsAtStart(i);
    }

    public int states(int what, int i) throws IllegalArgumentException, IllegalStateException {
        if (what < 0 || what > 5 || i < 0 || what != 5 && i != 0) {
            throw new IllegalArgumentException();
        }
        if (what == 5) {
            needNumber(i, model.specs.size);
        }
        needModel();
        ready();
        drive();
        if (what == 5) {
            prover.ask(i);
            drive();
        }
        return prover.tally(what, i);
    }

    public int count(int what) throws IllegalArgumentException, IllegalStateException {
        if (what < 0 || what > 7) {
            throw new IllegalArgumentException();
        }
        needModel();
        switch (what) {
            case 0:
                return model.variables.size;
            case 1:
                return model.bits();
            case 2:
                return model.instances.size;
            case 3:
                return model.specs.size;
            case 4:
                return model.fairs.size;
            case 5:
                return prover.shownCount;
            case 6:
                return prover.loop;
            default:
                return current >= 0 ? 1 : 0;
        }
    }

    public int show(int i) throws IllegalArgumentException, IllegalStateException,
            UnsupportedOperationException, IndexOutOfBoundsException {
        needNumber(i, model.specs.size);
        needModel();
        ready();
        drive();
        prover.ask(i);
        drive();
        int start = prover.startToShow(i);
        if (start < 0) {
            throw new UnsupportedOperationException();
        }
        prover.seekGoal(i);
        drive();
        prover.seekWay(i);
        drive();
        prover.seekPath(i, start);
        drive();
        int many = prover.display();
        drive();
        if (many > SHOWN_LIMIT) {
            throw new IndexOutOfBoundsException();
        }
        return many;
    }

    public int pick(int n) throws IllegalArgumentException, IllegalStateException, IndexOutOfBoundsException {
        needPlain(n);
        needModel();
        return enter(n < prover.shownCount ? prover.shown[n] : -1);
    }

    public int first(int n) throws IllegalArgumentException, IllegalStateException, IndexOutOfBoundsException {
        needPlain(n);
        needModel();
        ready();
        drive();
        return enter(prover.initialState(n));
    }

    public int step(int n) throws IllegalArgumentException, IllegalStateException,
            UnsupportedOperationException, IndexOutOfBoundsException {
        needPlain(n);
        needModel();
        needCurrent();
        graph.fetch(current);
        drive();
        return enter(prover.follower(n));
    }

    public int value(int v) throws IllegalArgumentException, IllegalStateException, UnsupportedOperationException {
        needNumber(v, model.variables.size);
        needModel();
        needCurrent();
        return prover.worthOf(v, current);
    }

    public boolean holds(int i) throws IllegalArgumentException, IllegalStateException, UnsupportedOperationException {
        needNumber(i, model.specs.size);
        needModel();
        needCurrent();
        prover.ask(i);
        drive();
        return prover.isTrueIn(i, current);
    }

    /** Nothing is to be changed: STATES are held in one order, and rows are thrown away by read. */
    public int tidy(int what) throws IllegalArgumentException, IllegalStateException {
        if (what < 0 || what > 3) {
            throw new IllegalArgumentException();
        }
        needModel();
        return model.specs.size;
    }

    public int faults(int what) throws IllegalArgumentException {
        if (what < 0 || what > 2) {
            throw new IllegalArgumentException();
        }
        return what == 2 ? prover.strayPaths : 0;
    }

    /** Lays out the STATES and where they GO, when these are first asked for. */
    private void ready() {
        if (isReady) {
            return;
        }
        isReady = true;
        space.know();
        relation.begin();
        relation.takeLines();
        for (int i = 0; i < TAPE_LIMIT && (i == 0 || relation.openBranch()); i++) {
            relation.splitPieces();
            relation.takeEquals();
            relation.takePieces();
        }
        relation.weighBranches();
        relation.partClasses();
        relation.openRows();
        for (int s = 0; s < space.total; s++) {
            if (!relation.findRow(s)) {
                makeRow(s);
                relation.keepRow(s);
            }
        }
        graph.begin();
        prover.explore();
    }

    /** Lists the STATES to which one GOES: by each branch, if there are several. */
    private void makeRow(int state) {
        relation.beginRow();
        for (int b = relation.firstBranch(); b < relation.branches.size; b++) {
            if (relation.pose(state, b)) {
                relation.choose();
                relation.spell();
                relation.sift();
                relation.gather();
            }
        }
        relation.endRow();
    }

    /** Does what the prover has set out to do: brings the rows and the truths that it waits for. */
    private void drive() {
        for (int i = 0; i < STEP_LIMIT; i++) {
            if (graph.wanted >= 0) {
                if (relation.isAbsent(graph.wanted)) {
                    makeRow(graph.memberOf(graph.wanted));
                    relation.layList();
                } else {
                    relation.recall(graph.wanted);
                }
                graph.visit();
            } else if (prover.truth != null) {
                space.evaluate(-1, prover.truth);
                prover.truth = null;
            } else if (prover.isSeeking()) {
                prover.seekOn();
            } else if (!prover.advance()) {
                return;
            }
        }
    }

    private int enter(int state) {
        if (state < 0) {
            throw new IndexOutOfBoundsException();
        }
        current = state;
        return prover.followers(state);
    }

    private void needNumber(int i, int bound) {
        if (i < 0 || hasModel && i >= bound) {
            throw new IllegalArgumentException();
        }
    }

    private void needPlain(int n) {
        if (n < 0) {
            throw new IllegalArgumentException();
        }
    }

    private void needModel() {
        if (!hasModel) {
            throw new IllegalStateException();
        }
    }

    private void needCurrent() {
        if (current < 0) {
            throw new UnsupportedOperationException();
        }
    }

    /** How many parts stand before an operator. */
    private static int partsOf(int op, int arg) {
        if (op <= OP_NEXT) {
            return 0;
        }
        if (op >= OP_NOT && op <= OP_AG || op == OP_NEG || op == OP_ONE) {
            return 1;
        }
        switch (op) {
            case OP_IN:
                return arg + 1;
            case OP_SET:
                return arg;
            case OP_CASE:
            case OP_PICK:
                return 2 * arg;
            default:
                return 2;
        }
    }

    private static boolean isTimed(int op) {
        return op >= OP_EX && op <= OP_AG || op == OP_EU || op == OP_AU;
    }

    private static int[] fit(int[] row, int need) {
        return need <= row.length ? row : new int[Math.max(need, 2 * row.length)];
    }

    /** A row with so many places for each of so many valuations, and a few more. */
    private static int[] fitStates(int[] row, int states, int each) {
        int most = states <= FIRST_SPACE ? FIRST_SPACE : states <= SMALL_SPACE ? SMALL_SPACE : Math.max(states, FULL_SPACE);
        return row.length >= each * (states + 4) ? row : new int[each * (most + 4)];
    }

    private static boolean has(long[] set, int x) {
        return (set[x >> 6] >>> x & 1L) != 0;
    }

    /** Rows of ints that grow: the container for what a text says. */
    static final class Rows {
        private final int width;
        private int[] cells;
        private int size;

        Rows(int width, int rows) {
            this.width = width;
            this.cells = new int[width * rows];
        }

        void clear() {
            size = 0;
        }

        void cut(int rows) {
            size = Math.max(0, Math.min(size, rows));
        }

        /** Adds a row of up to four numbers, the rest of it 0; its number. */
        int put(int a, int b, int c, int d) {
            int at = size * width;
            if (at + width > cells.length) {
                cells = Arrays.copyOf(cells, 2 * cells.length + width);
            }
            for (int column = 0; column < width; column++) {
                cells[at + column] = column == 0 ? a : column == 1 ? b : column == 2 ? c : column == 3 ? d : 0;
            }
            size++;
            return size - 1;
        }

        int get(int row, int column) {
            return row < 0 || row >= size || column >= width ? 0 : cells[row * width + column];
        }

        void set(int row, int column, int value) {
            if (row >= 0 && row < size && column < width) {
                cells[row * width + column] = value;
            }
        }
    }

    /** Parts THE TAPE into TOKENS, and gives each WORD a number. */
    static final class Lexer {
        private static final int W_START = 0;
        private static final int W_LENGTH = 1;
        private static final int W_CHAIN = 2;
        private static final int W_SYMBOL = 3;

        private byte[] tape;
        private int length;
        private int at;
        private int kind;
        private int datum;
        private final Rows tokens = new Rows(3, 64);
        private final byte[] known;
        private byte[] letters;
        private int lettersUsed;
        private final Rows words;
        private final int[] heads;
        private int symbols;

        Lexer() {
            known = new byte[KNOWN_WORDS.length()];
            for (int i = 0; i < known.length; i++) {
                known[i] = (byte) KNOWN_WORDS.charAt(i);
            }
            letters = new byte[512];
            words = new Rows(4, 64);
            heads = new int[256];
            tape = known;
        }

        /** All TOKENS up to the end, or up to a byte that is in none. */
        void scan(byte[] bytes, int many) {
            tape = bytes;
            length = many;
            at = 0;
            tokens.clear();
            forgetWords();
            kind = T_NAME;
            for (int i = 0; i <= many && kind != T_END && kind != T_NONE; i++) {
                skipBlanks();
                int place = at;
                datum = 0;
                if (at >= length) {
                    kind = T_END;
                } else if (isLetter(tape[at])) {
                    word();
                } else if (isDigit(tape[at])) {
                    number();
                } else {
                    sign();
                }
                tokens.put(kind, datum, place, 0);
            }
        }

        private void forgetWords() {
            symbols = 0;
            lettersUsed = 0;
            words.clear();
            Arrays.fill(heads, -1);
            int from = 0;
            for (int i = 0; i < known.length; i++) {
                if (known[i] == ' ') {
                    numberOf(known, from, i);
                    from = i + 1;
                }
            }
        }

        private void skipBlanks() {
            boolean inRemark = false;
            for (; at < length; at++) {
                int c = tape[at];
                if (inRemark) {
                    inRemark = c != 10;
                } else if (c == '-' && at + 1 < length && tape[at + 1] == '-') {
                    inRemark = true;
                } else if (c != 9 && c != 10 && c != 13 && c != 32) {
                    return;
                }
            }
        }

        private static boolean isLetter(int c) {
            return c >= 'a' && c <= 'z' || c >= 'A' && c <= 'Z' || c == '_';
        }

        private static boolean isDigit(int c) {
            return c >= '0' && c <= '9';
        }

        private void word() {
            int from = at;
            for (; at < length; at++) {
                if (!isLetter(tape[at]) && !isDigit(tape[at])) {
                    break;
                }
            }
            datum = numberOf(tape, from, at);
            kind = datum < NAME_MAIN ? datum : T_NAME;
        }

        private void number() {
            for (; at < length && isDigit(tape[at]); at++) {
                datum = Math.min(datum * 10 + tape[at] - '0', TAPE_LIMIT);
            }
            kind = datum > 32767 ? T_NONE : T_NUMBER;
        }

        private void sign() {
            char c = (char) (tape[at] & 255);
            int d = at + 1 < length ? tape[at + 1] : 0;
            int e = at + 2 < length ? tape[at + 2] : 0;
            if (c == '<' && d == '-' && e == '>') {
                kind = S_IFF;
                at += 3;
                return;
            }
            for (int i = 0; i + 1 < DOUBLE_SIGNS.length(); i += 2) {
                if (DOUBLE_SIGNS.charAt(i) == c && DOUBLE_SIGNS.charAt(i + 1) == d) {
                    kind = S_IMP + i / 2;
                    at += 2;
                    return;
                }
            }
            int single = SINGLE_SIGNS.indexOf(c);
            kind = single < 0 ? T_NONE : S_OPEN + single;
            at++;
        }

        private int numberOf(byte[] from, int start, int stop) {
            int hash = 0;
            for (int i = start; i < stop; i++) {
                hash = hash * 31 + from[i];
            }
            int head = (hash ^ hash >>> 8) & 255;
            int w = heads[head];
            for (int i = 0; i < words.size && w >= 0; i++) {
                if (isWord(w, from, start, stop)) {
                    return w;
                }
                w = words.get(w, W_CHAIN);
            }
            return keepWord(from, start, stop, head);
        }

        private boolean isWord(int w, byte[] from, int start, int stop) {
            int first = words.get(w, W_START);
            if (words.get(w, W_LENGTH) != stop - start) {
                return false;
            }
            for (int i = start; i < stop; i++) {
                if (letters[first + i - start] != from[i]) {
                    return false;
                }
            }
            return true;
        }

        private int keepWord(byte[] from, int start, int stop, int head) {
            int many = stop - start;
            if (lettersUsed + many > letters.length) {
                letters = Arrays.copyOf(letters, 2 * letters.length + many);
            }
            System.arraycopy(from, start, letters, lettersUsed, many);
            int w = words.put(lettersUsed, many, heads[head], -1);
            heads[head] = w;
            lettersUsed += many;
            return w;
        }

        /** SYMBOLS are numbered as they stand as VALUES, so that 0 is what a case without a truth gives. */
        int makeSymbol(int word) {
            if (words.get(word, W_SYMBOL) < 0) {
                words.set(word, W_SYMBOL, symbols);
                symbols++;
            }
            return words.get(word, W_SYMBOL);
        }

        int symbolOf(int word) {
            return words.get(word, W_SYMBOL);
        }
    }

    /** What a TEXT says, and the INSTANCES, ENTRIES and VARIABLES that come of it. */
    static final class Model {
        private final Rows code = new Rows(2, 64);
        private final Rows modules = new Rows(11, 4);
        private final Rows params = new Rows(1, 4);
        private final Rows vars = new Rows(6, 8);
        private final Rows values = new Rows(2, 8);
        private final Rows given = new Rows(2, 4);
        private final Rows defs = new Rows(3, 8);
        private final Rows lines = new Rows(4, 8);
        private final Rows claims = new Rows(3, 8);
        private final Rows refs = new Rows(4, 32);
        private final Rows steps = new Rows(1, 32);
        private final Rows instances = new Rows(4, 4);
        private final Rows slots = new Rows(1, 8);
        private final Rows entries = new Rows(6, 8);
        private final Rows order = new Rows(1, 8);
        private final Rows variables = new Rows(4, 8);
        private final Rows fairs = new Rows(4, 4);
        private final Rows specs = new Rows(3, 4);
        private final Rows open = new Rows(2, 8);

        void clear() {
            code.clear();
            modules.clear();
            params.clear();
            vars.clear();
            values.clear();
            given.clear();
            defs.clear();
            lines.clear();
            claims.clear();
            refs.clear();
            steps.clear();
            instances.clear();
            slots.clear();
            entries.clear();
            order.clear();
            variables.clear();
            fairs.clear();
            specs.clear();
        }

        void openModule(int name) {
            int row = modules.put(name, params.size, vars.size, defs.size);
            modules.set(row, M_LINES, lines.size);
            modules.set(row, M_CLAIMS, claims.size);
            modules.set(row, M_REFS, refs.size);
        }

        /** A MODULE's rows in a table end where those of the next MODULE begin. */
        int stop(int module, int column, Rows table) {
            return module + 1 < modules.size ? modules.get(module + 1, column) : table.size;
        }

        int sortOf(int varRow) {
            int type = vars.get(varRow, V_TYPE);
            if (type == TYPE_BOOLEAN) {
                return SORT_TRUTH;
            }
            return type == TYPE_LIST && values.get(vars.get(varRow, V_A), 1) != 0 ? SORT_SYMBOL : SORT_NUMBER;
        }

        int valuesOf(int varRow) {
            int type = vars.get(varRow, V_TYPE);
            if (type == TYPE_BOOLEAN) {
                return 2;
            }
            int b = vars.get(varRow, V_B);
            return type == TYPE_RANGE ? b - vars.get(varRow, V_A) + 1 : b;
        }

        int worth(int varRow, int digit) {
            int type = vars.get(varRow, V_TYPE);
            if (type == TYPE_BOOLEAN) {
                return digit;
            }
            int a = vars.get(varRow, V_A);
            return type == TYPE_RANGE ? a + digit : values.get(a + digit, 0);
        }

        int bits() {
            int all = 0;
            for (int v = 0; v < variables.size; v++) {
                all += 32 - Integer.numberOfLeadingZeros(variables.get(v, W_SIZE) - 1);
            }
            return all;
        }

        /** Makes all INSTANCES below main, in the order in which their VARS stand. */
        void grow(int main) {
            open.clear();
            addInstance(main, -1, -1);
            for (int i = 0; i < 2 * ENTRY_LIMIT && open.size > 0; i++) {
                int top = open.size - 1;
                int instance = open.get(top, 0);
                int varRow = open.get(top, 1);
                int module = instances.get(instance, I_MODULE);
                if (varRow < stop(module, M_VARS, vars)) {
                    open.set(top, 1, varRow + 1);
                    addVar(instance, module, varRow);
                } else {
                    addClaims(instance, module);
                    open.cut(top);
                }
            }
        }

        private void addVar(int instance, int module, int varRow) {
            int slot = instances.get(instance, I_SLOTS) + varRow - modules.get(module, M_VARS);
            if (vars.get(varRow, V_TYPE) == TYPE_MODULE) {
                slots.set(slot, 0, instances.size);
                addInstance(vars.get(varRow, V_MODULE), instance, varRow);
            } else {
                slots.set(slot, 0, variables.put(varRow, valuesOf(varRow), -1, worth(varRow, 0)));
            }
        }

        private void addInstance(int module, int parent, int varRow) {
            int paramsHere = stop(module, M_PARAMS, params) - modules.get(module, M_PARAMS);
            int instance = instances.put(module, slots.size, entries.size, paramsHere);
            modules.set(module, M_USED, 1);
            for (int v = modules.get(module, M_VARS); v < stop(module, M_VARS, vars); v++) {
                slots.put(-1, 0, 0, 0);
            }
            for (int p = 0; p < paramsHere; p++) {
                int row = vars.get(varRow, V_A) + p;
                entries.put(given.get(row, 0), given.get(row, 1), parent, 0);
            }
            for (int d = modules.get(module, M_DEFS); d < stop(module, M_DEFS, defs); d++) {
                entries.put(defs.get(d, 1), defs.get(d, 2), instance, 0);
            }
            open.put(instance, modules.get(module, M_VARS), 0, 0);
        }

        private void addClaims(int instance, int module) {
            for (int c = modules.get(module, M_CLAIMS); c < stop(module, M_CLAIMS, claims); c++) {
                int kind = claims.get(c, C_KIND);
                if (kind == K_FAIRNESS) {
                    fairs.put(claims.get(c, 1), claims.get(c, 2), instance, 0);
                } else if (kind == K_SPEC) {
                    specs.put(claims.get(c, 1), claims.get(c, 2), instance, 0);
                }
            }
        }

        /** The VARIABLE, the entry or the SYMBOL that NAMES mean in an INSTANCE. */
        int reach(int ref, int where) {
            int kind = refs.get(ref, R_KIND);
            int target = refs.get(ref, R_TARGET);
            if (kind == IS_SYMBOL) {
                return target;
            }
            int instance = where;
            int start = refs.get(ref, R_START);
            for (int i = 0; i < refs.get(ref, R_LENGTH) - 1; i++) {
                instance = slots.get(instances.get(instance, I_SLOTS) + steps.get(start + i, 0), 0);
            }
            if (kind == IS_VARIABLE) {
                return slots.get(instances.get(instance, I_SLOTS) + target, 0);
            }
            int entry = instances.get(instance, I_ENTRIES) + target;
            return kind == IS_PARAM ? entry : entry + instances.get(instance, I_PARAMS);
        }

        /** Adds all claims of a kind and all lines of a form, with their INSTANCES and VARIABLES (or -1). */
        void collect(int claimKind, int form, int stage, Rows tasks) {
            for (int i = 0; i < instances.size; i++) {
                int m = instances.get(i, I_MODULE);
                for (int c = modules.get(m, M_CLAIMS); c < stop(m, M_CLAIMS, claims); c++) {
                    if (claims.get(c, C_KIND) == claimKind) {
                        int row = tasks.put(claims.get(c, 1), claims.get(c, 2), i, -1);
                        tasks.set(row, T_STAGE, stage);
                    }
                }
                int first = instances.get(i, I_SLOTS) - modules.get(m, M_VARS);
                for (int n = modules.get(m, M_LINES); n < stop(m, M_LINES, lines); n++) {
                    if (lines.get(n, L_FORM) == form) {
                        int variable = slots.get(first + lines.get(n, L_VAR), 0);
                        int row = tasks.put(lines.get(n, L_FROM), lines.get(n, L_TO), i, variable);
                        tasks.set(row, T_STAGE, stage);
                    }
                }
            }
        }

        /** Whether the code at two places, so long, says the same in an INSTANCE. */
        boolean isAlike(int one, int other, int length, int where) {
            for (int i = 0; i < length; i++) {
                int op = code.get(one + i, 0);
                int a = code.get(one + i, 1);
                int b = code.get(other + i, 1);
                boolean named = op == OP_NAME || op == OP_NEXT;
                if (op != code.get(other + i, 0) || !named && a != b
                        || named && (refs.get(a, R_KIND) != refs.get(b, R_KIND) || reach(a, where) != reach(b, where))) {
                    return false;
                }
            }
            return true;
        }

        /** Where the part begins whose operator stands at last. */
        int startOf(int last) {
            int need = 1;
            for (int i = last; i >= 0; i--) {
                need += partsOf(code.get(i, 0), code.get(i, 1)) - 1;
                if (need == 0) {
                    return i;
                }
            }
            return 0;
        }
    }

    /** Reads a TEXT by the grammar; what is open stands on a stack, so that no depth is in calls. */
    static final class Parser {
        private final Lexer lexer = new Lexer();
        private final Rows stack = new Rows(2, 32);
        private Model model;
        private int at;
        private int kind;
        private int datum;
        private int mode;
        private int cap;
        // How many P, F, E in ( ) or [ ], "case" and CHOICES are begun and not ended.
        private int open;
        private int from;
        private int name;
        private int form;

        /** The PLACE of the TOKEN with which it can't go on, or -1. */
        int parse(Model into, byte[] tape, int length) {
            model = into;
            model.clear();
            stack.clear();
            lexer.scan(tape, length);
            at = -1;
            advance();
            mode = WANT_MODULE;
            boolean fine = true;
            for (int i = 0; i < 8 * TAPE_LIMIT && fine && mode != DONE; i++) {
                switch (mode) {
                    case WANT_MODULE:
                        fine = module();
                        break;
                    case WANT_VAR:
                        fine = kind == T_NAME ? variable() : section();
                        break;
                    case WANT_DEFINE:
                        fine = kind == T_NAME ? definition() : section();
                        break;
                    case WANT_LINE:
                        fine = kind == T_NAME || kind == K_INIT_OF || kind == K_NEXT ? line() : section();
                        break;
                    case WANT_SECTION:
                        fine = section();
                        break;
                    case HAVE_PART:
                        fine = operator();
                        break;
                    case HAVE_CHOICE:
                        fine = choiceEnded();
                        break;
                    case WANT_CHOICE:
                        fine = choice();
                        break;
                    default:
                        fine = operand();
                        break;
                }
            }
            if (!fine) {
                return lexer.tokens.get(at, 2);
            }
            giveSymbols();
            return -1;
        }

        /** A NAME may stand before the TYPE that makes it a SYMBOL, so this is looked at in the end. */
        private void giveSymbols() {
            for (int r = 0; r < model.refs.size; r++) {
                int symbol = lexer.symbolOf(model.steps.get(model.refs.get(r, R_START), 0));
                model.refs.set(r, R_TARGET, symbol);
            }
        }

        private void advance() {
            at = Math.min(at + 1, lexer.tokens.size - 1);
            kind = lexer.tokens.get(at, 0);
            datum = lexer.tokens.get(at, 1);
        }

        private boolean take(int wanted) {
            if (kind != wanted) {
                return false;
            }
            advance();
            return true;
        }

        private boolean module() {
            if (!take(K_MODULE)) {
                return false;
            }
            model.openModule(datum);
            mode = WANT_SECTION;
            return take(T_NAME) && (kind != S_OPEN || params());
        }

        private boolean params() {
            for (int i = 0; i < TAPE_LIMIT; i++) {
                advance();
                model.params.put(datum, 0, 0, 0);
                if (!take(T_NAME)) {
                    return false;
                }
                if (kind != S_COMMA) {
                    break;
                }
            }
            return take(S_CLOSE);
        }

        private boolean section() {
            int head = kind;
            if (head == T_END || head == K_MODULE) {
                mode = head == T_END ? DONE : WANT_MODULE;
                return true;
            }
            if (head < K_VAR || head > K_SPEC) {
                return false;
            }
            advance();
            if (head >= K_INIT) {
                return start(IN_CLAIM, head, WANT_P);
            }
            mode = head == K_VAR ? WANT_VAR : head == K_DEFINE ? WANT_DEFINE : WANT_LINE;
            return true;
        }

        private boolean definition() {
            int named = datum;
            advance();
            return take(S_BECOMES) && start(IN_DEFINE, named, WANT_P);
        }

        private boolean line() {
            form = kind == K_INIT_OF ? FORM_INIT : kind == K_NEXT ? FORM_NEXT : FORM_ALONE;
            if (form != FORM_ALONE) {
                advance();
                if (!take(S_OPEN)) {
                    return false;
                }
            }
            name = datum;
            if (!take(T_NAME) || form != FORM_ALONE && !take(S_CLOSE) || !take(S_BECOMES)) {
                return false;
            }
            return start(IN_LINE, 0, WANT_CHOICE);
        }

        private boolean variable() {
            int row = model.vars.put(datum, TYPE_BOOLEAN, 0, 0);
            advance();
            if (!take(S_COLON)) {
                return false;
            }
            if (kind == T_NAME) {
                return instance(row);
            }
            if (kind == S_BRACE) {
                return valueList(row) && take(S_END);
            }
            if (kind == K_BOOLEAN) {
                return take(K_BOOLEAN) && take(S_END);
            }
            model.vars.set(row, V_TYPE, TYPE_RANGE);
            return bound(row, V_A) && take(S_TO) && bound(row, V_B) && take(S_END);
        }

        private boolean instance(int row) {
            model.vars.set(row, V_TYPE, TYPE_MODULE);
            model.vars.set(row, V_MODULE, datum);
            model.vars.set(row, V_A, model.given.size);
            advance();
            if (kind != S_OPEN) {
                return take(S_END);
            }
            advance();
            start(IN_GIVEN, row, WANT_P);
            open = 1;
            return true;
        }

        private boolean bound(int row, int column) {
            boolean minus = kind == S_MINUS;
            if (minus) {
                advance();
            }
            model.vars.set(row, column, minus ? -datum : datum);
            return take(T_NUMBER);
        }

        private boolean valueList(int row) {
            model.vars.set(row, V_TYPE, TYPE_LIST);
            model.vars.set(row, V_A, model.values.size);
            for (int i = 0; i < TAPE_LIMIT; i++) {
                advance();
                boolean minus = kind == S_MINUS;
                if (minus) {
                    advance();
                }
                if (kind == T_NAME && !minus) {
                    model.values.put(lexer.makeSymbol(datum), 1, 0, 0);
                } else if (kind == T_NUMBER) {
                    model.values.put(minus ? -datum : datum, 0, 0, 0);
                } else {
                    return false;
                }
                advance();
                if (kind != S_COMMA) {
                    break;
                }
            }
            model.vars.set(row, V_B, model.values.size - model.vars.get(row, V_A));
            return take(S_UNBRACE);
        }

        /** Begins an E or a CHOICE that stands in nothing else. */
        private boolean start(int context, int note, int wanted) {
            push(context, note);
            open = 0;
            from = model.code.size;
            mode = wanted;
            return true;
        }

        private void push(int what, int note) {
            stack.put(what, note, 0, 0);
        }

        private int top() {
            return stack.get(stack.size - 1, 0);
        }

        private int note() {
            return stack.get(stack.size - 1, 1);
        }

        private void drop() {
            stack.cut(stack.size - 1);
        }

        private boolean turnTo(int context, int note, int wanted) {
            stack.set(stack.size - 1, 0, context);
            stack.set(stack.size - 1, 1, note);
            mode = wanted;
            return true;
        }

        private void emit(int op, int arg) {
            model.code.put(op, arg, 0, 0);
        }

        private boolean operand() {
            if (kind == S_NOT || kind >= K_EX && kind <= K_A) {
                return prefix();
            }
            int begun = (mode == WANT_P ? 2 : 1) + (kind == K_CASE ? 1 : 0);
            if (open + begun > NESTING_LIMIT) {
                return false;
            }
            open += begun;
            if (kind == S_MINUS) {
                push(OP_NEG, 0);
                mode = WANT_F;
            } else if (kind == S_OPEN) {
                push(IN_PAREN, 0);
                open++;
                mode = WANT_P;
            } else if (kind == K_CASE) {
                push(IN_COND, 0);
                mode = WANT_P;
            } else {
                return leaf();
            }
            advance();
            return true;
        }

        private boolean prefix() {
            int head = kind;
            if (mode != WANT_P || open + 1 > NESTING_LIMIT) {
                return false;
            }
            open++;
            advance();
            if (head == S_NOT) {
                push(OP_NOT, 0);
            } else if (head <= K_AG) {
                push(OP_EX + head - K_EX, 0);
            } else {
                open++;
                push(IN_UNTIL, head == K_E ? OP_EU : OP_AU);
                return take(S_BRACKET);
            }
            return true;
        }

        private boolean leaf() {
            if (kind == K_TRUE || kind == K_FALSE) {
                emit(OP_TRUTH, kind == K_TRUE ? 1 : 0);
                advance();
            } else if (kind == T_NUMBER) {
                emit(OP_NUMBER, datum);
                advance();
            } else if (kind == T_NAME) {
                emit(OP_NAME, model.refs.size);
                if (!names()) {
                    return false;
                }
            } else {
                if (!take(K_NEXT) || !take(S_OPEN)) {
                    return false;
                }
                emit(OP_NEXT, model.refs.size);
                if (!names() || !take(S_CLOSE)) {
                    return false;
                }
            }
            factorEnded();
            return true;
        }

        private boolean names() {
            int row = model.refs.put(model.steps.size, 0, IS_NOTHING, -1);
            for (int i = 0; i < TAPE_LIMIT; i++) {
                model.steps.put(datum, 0, 0, 0);
                if (!take(T_NAME)) {
                    return false;
                }
                if (kind != S_DOT) {
                    break;
                }
                advance();
            }
            model.refs.set(row, R_LENGTH, model.steps.size - model.refs.get(row, R_START));
            return true;
        }

        private void factorEnded() {
            open--;
            for (int i = stack.size; i > 0 && top() == OP_NEG; i--) {
                drop();
                emit(OP_NEG, 0);
                open--;
            }
            mode = HAVE_PART;
            cap = LEVEL_ALL;
        }

        /** Takes operators from the stack that bind at least so closely; the level of the last, or 0. */
        private int unwind(int least) {
            int last = 0;
            for (int i = stack.size; i > 0 && LEVEL[top()] >= least; i--) {
                last = LEVEL[top()];
                if (last == LEVEL_PREFIX) {
                    open--;
                }
                emit(top(), note());
                drop();
            }
            return last;
        }

        private void endOfP() {
            unwind(LEVEL_PREFIX);
            open--;
        }

        private boolean operator() {
            int op = binary(kind);
            if (op < 0) {
                return closer();
            }
            int level = op == OP_IN ? LEVEL_COMPARE : LEVEL[op];
            if (level > cap) {
                return false;
            }
            if (level <= LEVEL_AND) {
                endOfP();
            }
            boolean fromLeft = level != LEVEL_IMP && level != LEVEL_COMPARE;
            int last = unwind(fromLeft ? level : level + 1);
            if (level == LEVEL_COMPARE && LEVEL[top()] == LEVEL_COMPARE) {
                return false;
            }
            advance();
            if (op == OP_IN) {
                push(IN_LIST, 0);
                mode = WANT_P;
                return take(S_BRACE);
            }
            push(op, last == level ? 1 : 0);
            mode = level <= LEVEL_AND ? WANT_P : WANT_F;
            return true;
        }

        private static int binary(int sign) {
            switch (sign) {
                case S_IFF:
                    return OP_IFF;
                case S_IMP:
                    return OP_IMP;
                case S_OR:
                    return OP_OR;
                case K_XOR:
                    return OP_XOR;
                case S_AND:
                    return OP_AND;
                case S_EQ:
                    return OP_EQ;
                case S_NE:
                    return OP_NE;
                case S_LT:
                    return OP_LT;
                case S_LE:
                    return OP_LE;
                case S_GT:
                    return OP_GT;
                case S_GE:
                    return OP_GE;
                case K_IN:
                    return OP_IN;
                case S_PLUS:
                    return OP_ADD;
                case S_MINUS:
                    return OP_SUB;
                case S_TIMES:
                    return OP_MUL;
                case S_OVER:
                    return OP_DIV;
                case K_MOD:
                    return OP_MOD;
                default:
                    return -1;
            }
        }

        /** An E has ended: what it stands in says how it goes on. */
        private boolean closer() {
            endOfP();
            unwind(1);
            int context = top();
            switch (context) {
                case IN_CLAIM:
                    model.claims.put(note(), from, model.code.size, 0);
                    return itemEnded(WANT_SECTION);
                case IN_DEFINE:
                    model.defs.put(note(), from, model.code.size, 0);
                    return itemEnded(WANT_DEFINE);
                case IN_GIVEN:
                    return given();
                case IN_PAREN:
                    drop();
                    open--;
                    factorEnded();
                    return take(S_CLOSE);
                case IN_UNTIL:
                    return take(K_U) && turnTo(IN_GOAL, note(), WANT_P);
                case IN_GOAL:
                    emit(note(), 0);
                    open--;
                    return take(S_UNBRACKET) && partEnded();
                case IN_LIST:
                    return listed(OP_IN);
                case IN_SET:
                    return listed(OP_SET);
                case IN_COND:
                    return take(S_COLON) && turnTo(IN_THEN, note(), WANT_P);
                case IN_PICK_COND:
                    return take(S_COLON) && turnTo(IN_PICK_THEN, note(), WANT_CHOICE);
                case IN_THEN:
                    return branched();
                default:
                    emit(OP_ONE, 0);
                    drop();
                    mode = HAVE_CHOICE;
                    return true;
            }
        }

        private boolean itemEnded(int wanted) {
            drop();
            mode = wanted;
            return take(S_END);
        }

        private boolean given() {
            model.given.put(from, model.code.size, 0, 0);
            if (kind == S_COMMA) {
                from = model.code.size;
                mode = WANT_P;
                return take(S_COMMA);
            }
            model.vars.set(note(), V_B, model.given.size - model.vars.get(note(), V_A));
            drop();
            mode = WANT_VAR;
            return take(S_CLOSE) && take(S_END);
        }

        /** Behind a P or R that is whole only what binds looser may come. */
        private boolean partEnded() {
            drop();
            mode = HAVE_PART;
            cap = LEVEL_AND;
            return true;
        }

        private boolean listed(int op) {
            int many = note() + 1;
            if (kind == S_COMMA) {
                advance();
                return turnTo(top(), many, WANT_P);
            }
            emit(op, many);
            if (!take(S_UNBRACE)) {
                return false;
            }
            partEnded();
            if (op == OP_SET) {
                mode = HAVE_CHOICE;
            }
            return true;
        }

        private boolean branched() {
            int many = note() + 1;
            if (!take(S_END)) {
                return false;
            }
            if (kind != K_ESAC) {
                return turnTo(IN_COND, many, WANT_P);
            }
            advance();
            emit(OP_CASE, many);
            drop();
            open--;
            factorEnded();
            return true;
        }

        private boolean choice() {
            int begun = kind == K_CASE ? 2 : 1;
            if (open + begun > NESTING_LIMIT) {
                return false;
            }
            open += begun;
            mode = WANT_P;
            if (kind == S_BRACE) {
                push(IN_SET, 0);
                advance();
            } else if (kind == K_CASE) {
                push(IN_PICK_COND, 0);
                advance();
            } else {
                push(IN_ONE, 0);
            }
            return true;
        }

        private boolean choiceEnded() {
            open--;
            if (top() == IN_LINE) {
                model.lines.put(form, name, from, model.code.size);
                return itemEnded(WANT_LINE);
            }
            int many = note() + 1;
            if (!take(S_END)) {
                return false;
            }
            if (kind != K_ESAC) {
                return turnTo(IN_PICK_COND, many, WANT_P);
            }
            advance();
            emit(OP_PICK, many);
            drop();
            open--;
            return true;
        }
    }

    /** Whether a TEXT is SOUND by all but what stands in E, and what its NAMES are. */
    static final class Sound {
        private final Rows members = new Rows(5, 32);
        private final int[] heads = new int[512];
        private Model model;
        private int main;

        boolean isWellFormed(Model of) {
            model = of;
            members.clear();
            Arrays.fill(heads, -1);
            boolean fine = true;
            for (int m = 0; m < model.modules.size; m++) {
                fine &= add(-1, model.modules.get(m, M_NAME), IS_MODULE, m);
            }
            main = rowOf(find(-1, NAME_MAIN));
            if (!fine || main < 0 || model.stop(main, M_PARAMS, model.params) > model.modules.get(main, M_PARAMS)) {
                return false;
            }
            for (int m = 0; m < model.modules.size; m++) {
                if (!namesDiffer(m) || !typesFit(m) || !linesFit(m)) {
                    return false;
                }
            }
            return endsSomewhere();
        }

        private int hashOf(int module, int name) {
            int hash = module * 7919 + name * 31;
            return (hash ^ hash >>> 9) & 511;
        }

        private boolean add(int module, int name, int kind, int row) {
            if (find(module, name) >= 0) {
                return false;
            }
            int head = hashOf(module, name);
            int at = members.put(module, name, kind, row);
            members.set(at, 4, heads[head]);
            heads[head] = at;
            return true;
        }

        private int find(int module, int name) {
            int at = heads[hashOf(module, name)];
            for (int i = 0; i < members.size && at >= 0; i++) {
                if (members.get(at, 0) == module && members.get(at, 1) == name) {
                    return at;
                }
                at = members.get(at, 4);
            }
            return -1;
        }

        private int kindOf(int member) {
            return member < 0 ? IS_NOTHING : members.get(member, 2);
        }

        private int rowOf(int member) {
            return member < 0 ? -1 : members.get(member, 3);
        }

        private boolean namesDiffer(int m) {
            boolean fine = true;
            for (int p = model.modules.get(m, M_PARAMS); p < model.stop(m, M_PARAMS, model.params); p++) {
                fine &= add(m, model.params.get(p, 0), IS_PARAM, p);
            }
            for (int v = model.modules.get(m, M_VARS); v < model.stop(m, M_VARS, model.vars); v++) {
                boolean plain = model.vars.get(v, V_TYPE) != TYPE_MODULE;
                fine &= add(m, model.vars.get(v, V_NAME), plain ? IS_VARIABLE : IS_INSTANCE, v);
            }
            for (int d = model.modules.get(m, M_DEFS); d < model.stop(m, M_DEFS, model.defs); d++) {
                fine &= add(m, model.defs.get(d, D_NAME), IS_DEFINE, d);
            }
            return fine;
        }

        private boolean typesFit(int m) {
            for (int v = model.modules.get(m, M_VARS); v < model.stop(m, M_VARS, model.vars); v++) {
                int type = model.vars.get(v, V_TYPE);
                if (type == TYPE_RANGE && model.vars.get(v, V_A) > model.vars.get(v, V_B)
                        || type == TYPE_LIST && !valuesFit(v) || type == TYPE_MODULE && !instanceFits(v)) {
                    return false;
                }
            }
            return true;
        }

        private boolean valuesFit(int v) {
            int a = model.vars.get(v, V_A);
            boolean fine = true;
            for (int i = a; i < a + model.vars.get(v, V_B); i++) {
                fine &= model.values.get(i, 1) == model.values.get(a, 1);
                fine &= add(-2 - v, model.values.get(i, 0), IS_SYMBOL, i);
            }
            return fine;
        }

        private boolean instanceFits(int v) {
            int module = rowOf(find(-1, model.vars.get(v, V_MODULE)));
            if (module < 0) {
                return false;
            }
            model.vars.set(v, V_MODULE, module);
            int wanted = model.stop(module, M_PARAMS, model.params) - model.modules.get(module, M_PARAMS);
            return wanted == model.vars.get(v, V_B);
        }

        private boolean linesFit(int m) {
            for (int i = model.modules.get(m, M_LINES); i < model.stop(m, M_LINES, model.lines); i++) {
                int member = find(m, model.lines.get(i, L_VAR));
                if (kindOf(member) != IS_VARIABLE) {
                    return false;
                }
                int v = rowOf(member);
                int form = model.lines.get(i, L_FORM);
                int before = model.vars.get(v, V_FORMS);
                if (form == FORM_ALONE && before != 0 || (before & (form | FORM_ALONE)) != 0) {
                    return false;
                }
                model.vars.set(v, V_FORMS, before | form);
                model.lines.set(i, L_VAR, v);
            }
            return true;
        }

        /** A MODULE is done when all MODULES of its VARS are; one that never is has itself in it. */
        private boolean endsSomewhere() {
            int done = 0;
            for (int i = 0; i < model.modules.size && done < model.modules.size; i++) {
                for (int m = 0; m < model.modules.size; m++) {
                    if (model.modules.get(m, M_DONE) == 0 && reckon(m)) {
                        done++;
                    }
                }
            }
            return done == model.modules.size;
        }

        private boolean reckon(int m) {
            int many = 1;
            int all = model.stop(m, M_DEFS, model.defs) - model.modules.get(m, M_DEFS)
                    + model.stop(m, M_LINES, model.lines) - model.modules.get(m, M_LINES)
                    + model.stop(m, M_CLAIMS, model.claims) - model.modules.get(m, M_CLAIMS);
            for (int v = model.modules.get(m, M_VARS); v < model.stop(m, M_VARS, model.vars); v++) {
                all++;
                if (model.vars.get(v, V_TYPE) == TYPE_MODULE) {
                    int child = model.vars.get(v, V_MODULE);
                    if (model.modules.get(child, M_DONE) == 0) {
                        return false;
                    }
                    many = Math.min(many + model.modules.get(child, M_INSTANCES), INSTANCE_LIMIT + 1);
                    all += model.vars.get(v, V_B) + model.modules.get(child, M_ENTRIES);
                    all = Math.min(all, 2 * TAPE_LIMIT);
                }
            }
            model.modules.set(m, M_DONE, 1);
            model.modules.set(m, M_INSTANCES, many);
            model.modules.set(m, M_ENTRIES, all);
            return true;
        }

        /** Finds what the NAMES in E mean, in MODULES that have INSTANCES; false if one means nothing. */
        boolean areNamesKnown() {
            for (int m = 0; m < model.modules.size; m++) {
                if (model.modules.get(m, M_USED) != 0) {
                    for (int r = model.modules.get(m, M_REFS); r < model.stop(m, M_REFS, model.refs); r++) {
                        if (!isKnown(m, r)) {
                            return false;
                        }
                    }
                }
            }
            return true;
        }

        private boolean isKnown(int m, int ref) {
            int module = m;
            int start = model.refs.get(ref, R_START);
            int last = model.refs.get(ref, R_LENGTH) - 1;
            for (int i = 0; i < last; i++) {
                int member = find(module, model.steps.get(start + i, 0));
                if (kindOf(member) != IS_INSTANCE) {
                    return false;
                }
                int v = rowOf(member);
                model.steps.set(start + i, 0, v - model.modules.get(module, M_VARS));
                module = model.vars.get(v, V_MODULE);
            }
            int member = find(module, model.steps.get(start + last, 0));
            int kind = kindOf(member);
            if (kind == IS_NOTHING && last == 0 && model.refs.get(ref, R_TARGET) >= 0) {
                model.refs.set(ref, R_KIND, IS_SYMBOL);
                return true;
            }
            if (kind != IS_VARIABLE && kind != IS_DEFINE && (kind != IS_PARAM || last > 0)) {
                return false;
            }
            int column = kind == IS_VARIABLE ? M_VARS : kind == IS_DEFINE ? M_DEFS : M_PARAMS;
            model.refs.set(ref, R_KIND, kind);
            model.refs.set(ref, R_TARGET, rowOf(member) - model.modules.get(module, column));
            return true;
        }
    }

    /** Says whether a TEXT can be the MODEL: SOUND, and within the limits, in the order of read. */
    static final class Judge {
        private final Sound sound = new Sound();
        private final Rows open = new Rows(2, 16);
        private int[] stack = new int[64];
        private Model model;

        int verdict(Model of) {
            model = of;
            if (!sound.isWellFormed(of)) {
                return UNSOUND;
            }
            if (of.modules.get(sound.main, M_INSTANCES) > INSTANCE_LIMIT
                    || of.modules.get(sound.main, M_ENTRIES) > ENTRY_LIMIT) {
                return TOO_MUCH;
            }
            of.grow(sound.main);
            if (!sound.areNamesKnown() || !areOrdered()) {
                return UNSOUND;
            }
            stack = fit(stack, of.code.size + 1);
            if (!areLow()) {
                return TOO_MUCH;
            }
            if (!haveSorts()) {
                return UNSOUND;
            }
            return of.bits() > BIT_LIMIT ? TOO_MUCH : FINE;
        }

        /** Orders what NAMES stand for so that each comes behind its parts; false if one contains itself. */
        private boolean areOrdered() {
            for (int e = 0; e < model.entries.size; e++) {
                if (model.entries.get(e, E_SEEN) == 0 && !visit(e)) {
                    return false;
                }
            }
            return true;
        }

        private boolean visit(int entry) {
            open.clear();
            enter(entry);
            for (int i = 0; i < 2 * ENTRY_LIMIT + 2 && open.size > 0; i++) {
                int top = open.size - 1;
                int part = nextPart(top);
                if (part < 0) {
                    model.entries.set(open.get(top, 0), E_SEEN, 2);
                    model.order.put(open.get(top, 0), 0, 0, 0);
                    open.cut(top);
                } else if (model.entries.get(part, E_SEEN) == 1) {
                    return false;
                } else {
                    enter(part);
                }
            }
            return true;
        }

        private void enter(int entry) {
            model.entries.set(entry, E_SEEN, 1);
            open.put(entry, model.entries.get(entry, E_FROM), 0, 0);
        }

        /** The next entry that is named in the open one and not yet ordered, or -1. */
        private int nextPart(int top) {
            int entry = open.get(top, 0);
            int where = model.entries.get(entry, E_WHERE);
            for (int i = open.get(top, 1); i < model.entries.get(entry, E_TO); i++) {
                int part = namedAt(i, where);
                if (part >= 0 && model.entries.get(part, E_SEEN) != 2) {
                    open.set(top, 1, i + 1);
                    return part;
                }
            }
            return -1;
        }

        private int namedAt(int i, int where) {
            int ref = model.code.get(i, 1);
            if (model.code.get(i, 0) != OP_NAME && model.code.get(i, 0) != OP_NEXT) {
                return -1;
            }
            int kind = model.refs.get(ref, R_KIND);
            return kind == IS_PARAM || kind == IS_DEFINE ? model.reach(ref, where) : -1;
        }

        private boolean areLow() {
            boolean low = true;
            for (int k = 0; k < model.order.size; k++) {
                int e = model.order.get(k, 0);
                int height = heightOf(model.entries.get(e, E_FROM), model.entries.get(e, E_TO),
                        model.entries.get(e, E_WHERE));
                model.entries.set(e, E_HEIGHT, height);
                low &= height <= HEIGHT_LIMIT;
            }
            for (int i = 0; i < model.instances.size; i++) {
                int m = model.instances.get(i, I_MODULE);
                for (int c = model.modules.get(m, M_CLAIMS); c < model.stop(m, M_CLAIMS, model.claims); c++) {
                    low &= heightOf(model.claims.get(c, 1), model.claims.get(c, 2), i) <= HEIGHT_LIMIT;
                }
                for (int n = model.modules.get(m, M_LINES); n < model.stop(m, M_LINES, model.lines); n++) {
                    low &= heightOf(model.lines.get(n, L_FROM), model.lines.get(n, L_TO), i) <= HEIGHT_LIMIT;
                }
            }
            return low;
        }

        private int heightOf(int from, int to, int where) {
            int top = 0;
            for (int i = from; i < to; i++) {
                int op = model.code.get(i, 0);
                int arg = model.code.get(i, 1);
                int parts = Math.min(partsOf(op, arg), top);
                int highest = 0;
                for (int k = top - parts; k < top; k++) {
                    highest = Math.max(highest, stack[k]);
                }
                int height = op == OP_ONE ? highest : highest + 1;
                if (op == OP_NAME) {
                    int entry = namedAt(i, where);
                    height = entry < 0 ? 1 : 1 + model.entries.get(entry, E_HEIGHT);
                } else if (parts == 2 && arg == 1 && LEVEL[op] > 0) {
                    // A chain is one, however long: what stands left of this has been counted.
                    height = Math.max(stack[top - 2], 1 + stack[top - 1]);
                }
                top -= parts;
                stack[top] = height;
                top++;
            }
            return stack[0];
        }

        private boolean haveSorts() {
            for (int k = 0; k < model.order.size; k++) {
                int e = model.order.get(k, 0);
                int sort = sortOf(model.entries.get(e, E_FROM), model.entries.get(e, E_TO),
                        model.entries.get(e, E_WHERE), ALLOW_NONE);
                model.entries.set(e, E_SORT, sort);
                if (sort == 0) {
                    return false;
                }
            }
            for (int i = 0; i < model.instances.size; i++) {
                if (!claimsAreTruths(i) || !linesHaveSorts(i)) {
                    return false;
                }
            }
            return true;
        }

        private boolean claimsAreTruths(int instance) {
            int m = model.instances.get(instance, I_MODULE);
            for (int c = model.modules.get(m, M_CLAIMS); c < model.stop(m, M_CLAIMS, model.claims); c++) {
                int kind = model.claims.get(c, C_KIND);
                int allow = kind == K_TRANS ? ALLOW_NEXT : kind == K_SPEC ? ALLOW_TIMED : ALLOW_NONE;
                int sort = sortOf(model.claims.get(c, 1), model.claims.get(c, 2), instance, allow);
                if (sort != SORT_TRUTH && sort != SORT_TIMED) {
                    return false;
                }
            }
            return true;
        }

        private boolean linesHaveSorts(int instance) {
            int m = model.instances.get(instance, I_MODULE);
            for (int n = model.modules.get(m, M_LINES); n < model.stop(m, M_LINES, model.lines); n++) {
                int sort = sortOf(model.lines.get(n, L_FROM), model.lines.get(n, L_TO), instance, ALLOW_NONE);
                if (sort != model.sortOf(model.lines.get(n, L_VAR))) {
                    return false;
                }
            }
            return true;
        }

        /** The SORT of an E or CHOICE, or 0 if its parts do not fit. */
        private int sortOf(int from, int to, int where, int allow) {
            int top = 0;
            for (int i = from; i < to; i++) {
                int op = model.code.get(i, 0);
                int arg = model.code.get(i, 1);
                int parts = Math.min(partsOf(op, arg), top);
                int sort = parts == 0 ? leafSort(i, where, allow) : joinedSort(op, top - parts, parts, allow);
                if (sort == 0) {
                    return 0;
                }
                top -= parts;
                stack[top] = sort;
                top++;
            }
            return stack[0];
        }

        private int leafSort(int i, int where, int allow) {
            int op = model.code.get(i, 0);
            if (op == OP_TRUTH || op == OP_NUMBER) {
                return op == OP_TRUTH ? SORT_TRUTH : SORT_NUMBER;
            }
            int ref = model.code.get(i, 1);
            int kind = model.refs.get(ref, R_KIND);
            if (op == OP_NEXT && (kind != IS_VARIABLE || allow != ALLOW_NEXT)) {
                return 0;
            }
            if (kind == IS_SYMBOL) {
                return SORT_SYMBOL;
            }
            int target = model.reach(ref, where);
            return kind == IS_VARIABLE ? model.sortOf(model.variables.get(target, W_VAR))
                    : model.entries.get(target, E_SORT);
        }

        private int joinedSort(int op, int base, int parts, int allow) {
            int first = stack[base];
            if (isTimed(op)) {
                return allow == ALLOW_TIMED && areTruths(base, parts) ? SORT_TIMED : 0;
            }
            if (op <= OP_NOT) {
                if (!areTruths(base, parts)) {
                    return 0;
                }
                return areAll(base, parts, SORT_TRUTH) ? SORT_TRUTH : SORT_TIMED;
            }
            if (op == OP_CASE || op == OP_PICK) {
                return casesSort(base, parts);
            }
            boolean same = first != SORT_TIMED && areAll(base, parts, first);
            if (op == OP_EQ || op == OP_NE || op == OP_IN) {
                return same ? SORT_TRUTH : 0;
            }
            if (op == OP_ONE || op == OP_SET) {
                return same ? first : 0;
            }
            if (!same || first != SORT_NUMBER) {
                return 0;
            }
            return op >= OP_ADD ? SORT_NUMBER : SORT_TRUTH;
        }

        private boolean areTruths(int base, int parts) {
            for (int k = base; k < base + parts; k++) {
                if (stack[k] != SORT_TRUTH && stack[k] != SORT_TIMED) {
                    return false;
                }
            }
            return true;
        }

        private boolean areAll(int base, int parts, int sort) {
            for (int k = base; k < base + parts; k++) {
                if (stack[k] != sort) {
                    return false;
                }
            }
            return true;
        }

        private int casesSort(int base, int parts) {
            int sort = stack[base + 1];
            for (int k = base; k + 1 < base + parts; k += 2) {
                if (stack[k] != SORT_TRUTH || stack[k + 1] != sort) {
                    return 0;
                }
            }
            return sort == SORT_TIMED ? 0 : sort;
        }
    }

    /**
     * Reckons an E of an INSTANCE straight from its code, for many valuations side by side, in lanes.
     * What VARIABLES are, what NAMES stand for and what is open stands in slots, with a cell for each
     * lane or one for all. The more slots there are the fewer lanes, so that the cells stay few.
     */
    static final class Machine {
        private static final int CELL_LIMIT = 1 << 15;
        private static final int LANES = 1024;
        private static final int FEW_CELLS = 1 << 12;
        private static final int FEW_LANES = 16;
        private static final int P_FROM = 0;
        private static final int P_TO = 1;
        private static final int P_WHERE = 2;
        private static final int P_SLOT = 3;
        // A side is a VARIABLE now or next; one that moves has a weight in the number of the valuation.
        private static final int S_SLOT = 0;
        private static final int S_WEIGHT = 1;
        private static final int S_NOW = 2;
        private static final int S_FILLED = 3;

        private Space space;
        private final Rows program = new Rows(4, 16);
        private final Rows sides = new Rows(4, SIDES);
        private int[] slotOf = new int[16];
        private int mask;
        private int choiceParts;
        private int widestChoice;
        private int openSlot;
        private int[] cells = new int[64];
        private final int[] left = new int[LANES];
        private final int[] right = new int[LANES];
        private final int[] made = new int[LANES];
        private int[] wide = new int[64];
        private int[] items = new int[32];
        private int top;
        private int[] setFrom = new int[16];
        private int setCount;
        private int width;
        private int lanes;
        private int at;
        private int total;
        private boolean stale;

        Machine() {
            for (int side = 0; side < SIDES; side++) {
                sides.put(0, 0, 0, -1);
            }
        }

        void begin(Space in) {
            space = in;
            program.clear();
        }

        /** Makes ready for an E, a CHOICE, or several E side by side. */
        void load(int from, int to, int where) {
            Model model = space.model;
            int last = program.size - 1;
            if (last >= 0 && program.get(last, P_FROM) == from && program.get(last, P_TO) == to
                    && program.get(last, P_WHERE) == where) {
                return;
            }
            slotOf = fit(slotOf, model.entries.size);
            Arrays.fill(slotOf, 0, model.entries.size, -1);
            program.clear();
            mask = 0;
            choiceParts = 0;
            widestChoice = 0;
            int deepest = note(from, to, where);
            for (int k = 0; k < program.size; k++) {
                deepest = Math.max(deepest, note(program.get(k, P_FROM), program.get(k, P_TO), program.get(k, P_WHERE)));
            }
            int slots = layOutSides();
            int entries = program.size;
            program.clear();
            for (int k = 0; k < model.order.size && program.size < entries; k++) {
                int e = model.order.get(k, 0);
                if (slotOf[e] >= 0) {
                    slotOf[e] = slots;
                    program.put(model.entries.get(e, E_FROM), model.entries.get(e, E_TO), model.entries.get(e, E_WHERE), slots);
                    slots++;
                }
            }
            program.put(from, to, where, -1);
            layOut(slots, deepest);
        }

        /** Notes what is named in an E, and what NAMES stand for to be noted too; how many parts are open at most. */
        private int note(int from, int to, int where) {
            Model model = space.model;
            int deepest = 1;
            int depth = 0;
            for (int i = from; i < to; i++) {
                int op = model.code.get(i, 0);
                int arg = model.code.get(i, 1);
                int parts = partsOf(op, arg);
                depth += 1 - parts;
                deepest = Math.max(deepest, depth);
                if (op == OP_ONE || op == OP_SET) {
                    choiceParts += parts;
                    widestChoice = Math.max(widestChoice, parts);
                }
                int kind = op == OP_NAME || op == OP_NEXT ? model.refs.get(arg, R_KIND) : IS_NOTHING;
                int target = kind == IS_NOTHING ? 0 : model.reach(arg, where);
                if (kind == IS_VARIABLE) {
                    int place = model.variables.get(target, W_PLACE);
                    mask |= place < 0 ? 0 : 1 << (op == OP_NEXT ? place + BIT_LIMIT : place);
                } else if ((kind == IS_PARAM || kind == IS_DEFINE) && slotOf[target] < 0) {
                    slotOf[target] = 0;
                    program.put(model.entries.get(target, E_FROM), model.entries.get(target, E_TO),
                            model.entries.get(target, E_WHERE), 0);
                }
            }
            return deepest;
        }

        private int layOutSides() {
            int slots = 0;
            for (int side = 0; side < SIDES; side++) {
                sides.set(side, S_FILLED, -1);
                if ((mask >>> side & 1) != 0) {
                    sides.set(side, S_SLOT, slots);
                    slots++;
                }
            }
            return slots;
        }

        private void layOut(int slots, int deepest) {
            openSlot = slots + choiceParts;
            int all = openSlot + deepest;
            width = Math.max(1, Math.min(Math.min(LANES, Math.max(FEW_LANES, space.total)), CELL_LIMIT / all));
            if (all * width > cells.length) {
                cells = new int[Math.max(all * width, all * width <= FEW_CELLS ? FEW_CELLS : CELL_LIMIT)];
            }
            wide = fit(wide, all);
            items = fit(items, deepest + 1);
            setFrom = fit(setFrom, choiceParts + 2);
        }

        /** Lets the VARIABLES of a mask move from their first VALUES on, the others are held; the turns it takes. */
        int rewind(int moving) {
            total = 1;
            for (int side = SIDES - 1; side >= 0; side--) {
                boolean moves = (moving >>> side & 1) != 0;
                weigh(side, moves ? total : 0);
                total *= moves ? space.size[side % BIT_LIMIT] : 1;
            }
            at = 0;
            fillAll();
            return (total + width - 1) / width;
        }

        void turn() {
            at += lanes;
            if (at < total) {
                fillAll();
            }
        }

        private void fillAll() {
            lanes = Math.min(width, total - at);
            stale = true;
            for (int side = 0; side < SIDES; side++) {
                if ((mask >>> side & 1) != 0) {
                    fill(side);
                }
            }
        }

        private void weigh(int side, int weight) {
            if (sides.get(side, S_WEIGHT) != weight) {
                sides.set(side, S_WEIGHT, weight);
                sides.set(side, S_FILLED, -1);
            }
        }

        /** Holds a VARIABLE. */
        void pose(int side, int digit) {
            sides.set(side, S_NOW, space.worth[space.first[side % BIT_LIMIT] + digit]);
        }

        /** Lets next be a STATE of a list from here on, the others are held. */
        void beginList() {
            stale = true;
            for (int side = 0; side < SIDES; side++) {
                weigh(side, side < BIT_LIMIT ? 0 : space.stride[side - BIT_LIMIT]);
                if (side < BIT_LIMIT && (mask >>> side & 1) != 0) {
                    fill(side);
                }
            }
        }

        /** Takes as many STATES of a list as there are lanes, or are left; how many. */
        int takeList(int[] list, int start, int many) {
            lanes = Math.min(width, many);
            at = list[start];
            boolean unbroken = list[start + lanes - 1] - at == lanes - 1;
            for (int side = BIT_LIMIT; side < SIDES; side++) {
                if ((mask >>> side & 1) != 0) {
                    if (unbroken) {
                        fill(side);
                    } else {
                        pickOut(side, list, start);
                    }
                }
            }
            return lanes;
        }

        /** Writes what a VARIABLE is in each lane; it is the same as before if it comes round evenly. */
        private void fill(int side) {
            int slot = sides.get(side, S_SLOT);
            int weight = sides.get(side, S_WEIGHT);
            int size = space.size[side % BIT_LIMIT];
            int first = space.first[side % BIT_LIMIT];
            int out = slot * width;
            int left = weight == 0 ? lanes : weight - at % weight;
            int digit = weight == 0 ? 0 : at / weight % size;
            wide[slot] = left >= lanes ? 0 : 1;
            if (left >= lanes) {
                cells[out] = weight == 0 ? sides.get(side, S_NOW) : space.worth[first + digit];
                sides.set(side, S_FILLED, -1);
                return;
            }
            int phase = at % (weight * size);
            if (sides.get(side, S_FILLED) == phase) {
                return;
            }
            sides.set(side, S_FILLED, lanes == width ? phase : -1);
            int k = 0;
            for (int run = 0; run < lanes && k < lanes; run++) {
                int many = Math.min(lanes - k, weight == 1 ? size - digit : left);
                if (weight == 1) {
                    System.arraycopy(space.worth, first + digit, cells, out + k, many);
                } else {
                    Arrays.fill(cells, out + k, out + k + many, space.worth[first + digit]);
                }
                digit = weight == 1 || digit + 1 == size ? 0 : digit + 1;
                left = weight;
                k += many;
            }
        }

        private void pickOut(int side, int[] list, int start) {
            int slot = sides.get(side, S_SLOT);
            int place = side % BIT_LIMIT;
            int size = space.size[place];
            int first = space.first[place];
            long perStride = space.inverse(space.stride[place]);
            long perSize = space.inverse(size);
            int out = slot * width;
            for (int k = 0; k < lanes; k++) {
                int above = (int) (list[start + k] * perStride >>> 2 * BIT_LIMIT);
                int digit = above - (int) (above * perSize >>> 2 * BIT_LIMIT) * size;
                cells[out + k] = space.worth[first + digit];
            }
            wide[slot] = 1;
            sides.set(side, S_FILLED, -1);
        }

        /** Reckons all lanes; what NAMES stand for has no next, and is reckoned again only if need be. */
        void run() {
            Model model = space.model;
            for (int p = stale ? 0 : program.size - 1; p < program.size; p++) {
                int until = program.get(p, P_TO);
                int where = program.get(p, P_WHERE);
                top = 0;
                setCount = 0;
                setFrom[0] = 0;
                for (int i = program.get(p, P_FROM); i < until; i++) {
                    int op = model.code.get(i, 0);
                    int arg = model.code.get(i, 1);
                    if (op <= OP_NEXT) {
                        push(op, arg, where);
                    } else {
                        apply(op, Math.min(partsOf(op, arg), top));
                    }
                }
                int slot = program.get(p, P_SLOT);
                if (slot >= 0) {
                    copy(items[0], slot);
                }
            }
            stale = false;
        }

        private void copy(int slot, int to) {
            wide[to] = wide[slot];
            System.arraycopy(cells, slot * width, cells, to * width, wide[slot] != 0 ? lanes : 1);
        }

        private void push(int op, int arg, int where) {
            Model model = space.model;
            int own = openSlot + top;
            int slot = own;
            int fixed = arg;
            if (op >= OP_NAME) {
                int kind = model.refs.get(arg, R_KIND);
                fixed = model.reach(arg, where);
                if (kind == IS_VARIABLE) {
                    int place = model.variables.get(fixed, W_PLACE);
                    fixed = model.variables.get(fixed, W_ONLY);
                    slot = place < 0 ? own : sides.get(op == OP_NEXT ? place + BIT_LIMIT : place, S_SLOT);
                } else if (kind != IS_SYMBOL) {
                    slot = slotOf[fixed];
                }
            }
            if (slot == own) {
                cells[own * width] = fixed;
                wide[own] = 0;
            }
            items[top] = slot;
            top++;
        }

        /** Puts what an operator makes of the last parts in their place. */
        private void apply(int op, int parts) {
            int first = top - parts;
            int out = openSlot + first;
            int many = 1;
            for (int k = first; k < top; k++) {
                many = wide[items[k]] != 0 ? lanes : many;
            }
            if (op == OP_ONE || op == OP_SET) {
                keepChoices(first);
                cells[out * width] = setCount - 1;
                many = 1;
            } else if (many == 1) {
                cells[out * width] = reckonOne(op, first);
            } else if (op == OP_CASE || op == OP_PICK) {
                choose(first, out * width, op == OP_CASE ? 0 : -1);
            } else if (op == OP_IN) {
                match(first, out * width);
            } else {
                bring(items[first], left);
                bring(items[top - 1], right);
                if (op <= OP_NOT || op == OP_EQ || op == OP_NE) {
                    joinTruths(op, out * width);
                } else if (op == OP_DIV || op == OP_MOD) {
                    divide(op, out * width);
                } else {
                    joinNumbers(op, out * width);
                }
            }
            wide[out] = many > 1 ? 1 : 0;
            items[first] = out;
            top = first + 1;
        }

        /** The values of a CHOICE are kept aside, before the open slots, and it is told by a number. */
        private void keepChoices(int first) {
            int part = setFrom[setCount];
            for (int k = first; k < top; k++) {
                copy(items[k], openSlot - choiceParts + part);
                part++;
            }
            setCount++;
            setFrom[setCount] = part;
        }

        private int cell(int slot, int lane) {
            return cells[slot * width + (wide[slot] != 0 ? lane : 0)];
        }

        /** Lays what a slot has in each lane into a row of its own; loops over such rows are fast. */
        private void bring(int slot, int[] row) {
            if (wide[slot] != 0) {
                System.arraycopy(cells, slot * width, row, 0, lanes);
            } else {
                Arrays.fill(row, 0, lanes, cells[slot * width]);
            }
        }

        /** What an operator makes of its parts when these are the same in all lanes. */
        private int reckonOne(int op, int first) {
            int a = cells[items[first] * width];
            if (op == OP_CASE || op == OP_PICK) {
                for (int k = first; k + 1 < top; k += 2) {
                    if (cells[items[k] * width] != 0) {
                        return cells[items[k + 1] * width];
                    }
                }
                return op == OP_CASE ? 0 : -1;
            }
            if (op == OP_IN) {
                for (int k = first + 1; k < top; k++) {
                    if (cells[items[k] * width] == a) {
                        return 1;
                    }
                }
                return 0;
            }
            return joinOne(op, a, cells[items[top - 1] * width]);
        }

        private static int joinOne(int op, int a, int b) {
            switch (op) {
                case OP_IFF:
                case OP_EQ:
                    return a == b ? 1 : 0;
                case OP_XOR:
                case OP_NE:
                    return a != b ? 1 : 0;
                case OP_IMP:
                    return (a ^ 1) | b;
                case OP_OR:
                    return a | b;
                case OP_AND:
                    return a & b;
                case OP_NOT:
                    return a ^ 1;
                case OP_LT:
                    return a < b ? 1 : 0;
                case OP_LE:
                    return a <= b ? 1 : 0;
                case OP_GT:
                    return a > b ? 1 : 0;
                case OP_GE:
                    return a >= b ? 1 : 0;
                case OP_ADD:
                    return (short) (a + b);
                case OP_SUB:
                    return (short) (a - b);
                case OP_MUL:
                    return (short) (a * b);
                case OP_NEG:
                    return (short) -a;
                case OP_DIV:
                    return b == 0 ? 0 : (short) (a / b);
                default:
                    return b == 0 ? 0 : a % b;
            }
        }

        /** The first truth decides, so what it gives is laid over what the later ones gave. */
        private void choose(int first, int out, int otherwise) {
            Arrays.fill(made, 0, lanes, otherwise);
            for (int item = top - 2; item >= first; item -= 2) {
                bring(items[item], left);
                bring(items[item + 1], right);
                for (int k = 0; k < lanes; k++) {
                    made[k] = right[k] & -left[k] | made[k] & left[k] - 1;
                }
            }
            System.arraycopy(made, 0, cells, out, lanes);
        }

        private void match(int first, int out) {
            Arrays.fill(made, 0, lanes, 0);
            bring(items[first], left);
            for (int item = first + 1; item < top; item++) {
                bring(items[item], right);
                for (int k = 0; k < lanes; k++) {
                    int other = left[k] ^ right[k];
                    made[k] |= (other | -other) >>> 31 ^ 1;
                }
            }
            System.arraycopy(made, 0, cells, out, lanes);
        }

        // Comparisons are reckoned by the sign of what differs, for loops without branches are fast.
        private void joinTruths(int op, int out) {
            switch (op) {
                case OP_IMP:
                    for (int k = 0; k < lanes; k++) {
                        cells[out + k] = (left[k] ^ 1) | right[k];
                    }
                    break;
                case OP_OR:
                    for (int k = 0; k < lanes; k++) {
                        cells[out + k] = left[k] | right[k];
                    }
                    break;
                case OP_AND:
                    for (int k = 0; k < lanes; k++) {
                        cells[out + k] = left[k] & right[k];
                    }
                    break;
                case OP_NOT:
                    for (int k = 0; k < lanes; k++) {
                        cells[out + k] = left[k] ^ 1;
                    }
                    break;
                default:
                    int same = op == OP_IFF || op == OP_EQ ? 1 : 0;
                    for (int k = 0; k < lanes; k++) {
                        int other = left[k] ^ right[k];
                        cells[out + k] = (other | -other) >>> 31 ^ same;
                    }
                    break;
            }
        }

        private void joinNumbers(int op, int out) {
            switch (op) {
                case OP_ADD:
                    for (int k = 0; k < lanes; k++) {
                        cells[out + k] = (short) (left[k] + right[k]);
                    }
                    break;
                case OP_SUB:
                    for (int k = 0; k < lanes; k++) {
                        cells[out + k] = (short) (left[k] - right[k]);
                    }
                    break;
                case OP_MUL:
                    for (int k = 0; k < lanes; k++) {
                        cells[out + k] = (short) (left[k] * right[k]);
                    }
                    break;
                case OP_NEG:
                    for (int k = 0; k < lanes; k++) {
                        cells[out + k] = (short) -left[k];
                    }
                    break;
                case OP_LT:
                case OP_GE:
                    int notBelow = op == OP_GE ? 1 : 0;
                    for (int k = 0; k < lanes; k++) {
                        cells[out + k] = left[k] - right[k] >>> 31 ^ notBelow;
                    }
                    break;
                default:
                    int notAbove = op == OP_LE ? 1 : 0;
                    for (int k = 0; k < lanes; k++) {
                        cells[out + k] = right[k] - left[k] >>> 31 ^ notAbove;
                    }
                    break;
            }
        }

        /** One divisor for many lanes is turned into a factor, 32 bits too far left, which is exact here. */
        private void divide(int op, int out) {
            int last = 0;
            long factor = 0;
            for (int k = 0; k < lanes; k++) {
                int a = left[k];
                int b = right[k];
                if (b == 0) {
                    cells[out + k] = 0;
                    continue;
                }
                if (b != last) {
                    last = b;
                    factor = (1L << 32) / Math.abs(b) + 1;
                }
                int size = (int) (Math.abs(a) * factor >>> 32);
                int quotient = (a ^ b) < 0 ? -size : size;
                cells[out + k] = op == OP_DIV ? (short) quotient : a - quotient * b;
            }
        }

        /** The digit that a VARIABLE which moves has in a lane. */
        int digitAt(int side, int lane) {
            int weight = Math.max(1, sides.get(side, S_WEIGHT));
            return (at + lane) / weight % Math.max(1, space.size[side % BIT_LIMIT]);
        }

        /** What was reckoned, lane by lane, till the next run. */
        int[] results() {
            bring(items[0], left);
            return left;
        }

        /** How many values the CHOICE (or the E side by side) gives in a lane. */
        int choices(int lane) {
            if (choiceParts == 0) {
                return top;
            }
            int set = cell(items[0], lane);
            return set < 0 ? 1 : setFrom[set + 1] - setFrom[set];
        }

        /** The k-th of them; a case without a truth gives 0. */
        int choice(int lane, int k) {
            if (choiceParts == 0) {
                return cell(items[k], lane);
            }
            int set = cell(items[0], lane);
            return set < 0 ? 0 : cell(openSlot - choiceParts + setFrom[set] + k, lane);
        }
    }

    /**
     * Sets of numbers below 2 to the 14, each kept once and in the shortest of three forms: a list, runs
     * of numbers, or bits. There is room for so much and no more: a set that finds none is absent, and
     * only its size is known.
     */
    static final class Sets {
        private static final int CHUNK = 8192;
        private static final int CHUNKS = 184;
        private static final int HEADS = 4096;
        private static final int LISTED = 0;
        private static final int IN_RUNS = 1;
        private static final int AS_BITS = 2;
        // The first long of a set: its size, form and length, the next set of the same head, and a hash.
        private static final int FORM_SHIFT = 15;
        private static final int LENGTH_SHIFT = 17;
        private static final int CHAIN_SHIFT = 26;
        private static final int HASH_SHIFT = 46;
        private static final long CHAIN_MASK = (1L << 20) - 1 << CHAIN_SHIFT;

        private final long[][] chunks = new long[CHUNKS][];
        private int used;
        private int number;
        // How much was used, and how many sets there were, when those before were forgotten.
        private int oldUsed;
        private int oldNumber;
        private int[] start = new int[64];
        private final int[] heads = new int[HEADS];
        private int headMask = HEADS - 1;
        private final long[] work = new long[WORD_LIMIT + 1];

        /** Empties the store, for sets of numbers below a bound. */
        void clear(int bound) {
            used = 0;
            number = 0;
            headMask = Math.min(HEADS, 2 * Integer.highestOneBit(bound)) - 1;
            forget();
        }

        /** From here on sets are others than those before, even if they have the same numbers. */
        void forget() {
            Arrays.fill(heads, 0, headMask + 1, -1);
            oldUsed = used;
            oldNumber = number;
        }

        boolean isAbsent(int id) {
            return start[id] < 0;
        }

        int sizeOf(int id) {
            if (start[id] < 0) {
                return -1 - start[id];
            }
            return (int) chunks[start[id] / CHUNK][start[id] % CHUNK] & (1 << FORM_SHIFT) - 1;
        }

        private long headOf(int id) {
            return chunks[start[id] / CHUNK][start[id] % CHUNK];
        }

        private int formOf(int id) {
            return (int) (chunks[start[id] / CHUNK][start[id] % CHUNK] >>> FORM_SHIFT & 3);
        }

        /** The number of the set of a rising list. */
        int add(int[] list, int many) {
            int length = encode(list, many);
            long hash = work[0];
            for (int i = 1; i <= length; i++) {
                hash = (hash ^ work[i]) * 0x9E3779B97F4A7C15L;
                hash ^= hash >>> 29;
            }
            int head = (int) hash & headMask;
            work[0] |= hash >>> HASH_SHIFT << HASH_SHIFT;
            int id = heads[head];
            for (int i = 0; i < number && id >= 0; i++) {
                if ((headOf(id) & ~CHAIN_MASK) == work[0] && isWork(id, length)) {
                    return id;
                }
                id = (int) ((headOf(id) & CHAIN_MASK) >>> CHAIN_SHIFT) - 1;
            }
            return keep(length, head, many);
        }

        private boolean isWork(int id, int length) {
            long[] chunk = chunks[start[id] / CHUNK];
            int from = start[id] % CHUNK;
            for (int i = 1; i <= length; i++) {
                if (chunk[from + i] != work[i]) {
                    return false;
                }
            }
            return true;
        }

        private int keep(int length, int head, int many) {
            if (number >= start.length) {
                start = Arrays.copyOf(start, 2 * start.length);
            }
            int from = used % CHUNK + length + 1 > CHUNK ? used + CHUNK - used % CHUNK : used;
            int c = from / CHUNK;
            if (c >= CHUNKS) {
                start[number] = -1 - many;
                number++;
                return number - 1;
            }
            if (chunks[c] == null) {
                chunks[c] = new long[CHUNK];
            }
            work[0] |= heads[head] + 1L << CHAIN_SHIFT;
            System.arraycopy(work, 0, chunks[c], from % CHUNK, length + 1);
            start[number] = from;
            heads[head] = number;
            used = from + length + 1;
            number++;
            return number - 1;
        }

        /** Writes a set behind its first long; how many longs that takes. An odd last run is written twice. */
        private int encode(int[] list, int many) {
            int runs = 0;
            for (int i = 0; i < many; i++) {
                runs += i == 0 || list[i] != list[i - 1] + 1 ? 1 : 0;
            }
            int asList = many + 3 >> 2;
            int asRuns = runs + 1 >> 1;
            int asBits = many == 0 ? 0 : (list[many - 1] >> 6) + 1;
            int length = Math.min(asList, Math.min(asRuns, asBits));
            int form = length == asList ? LISTED : length == asRuns ? IN_RUNS : AS_BITS;
            Arrays.fill(work, 1, length + 1, 0L);
            work[0] = many | (long) form << FORM_SHIFT | (long) length << LENGTH_SHIFT;
            int run = -1;
            for (int i = 0; i < many; i++) {
                long x = list[i];
                if (form == LISTED) {
                    work[1 + (i >> 2)] |= x << 16 * (i & 3);
                } else if (form == AS_BITS) {
                    work[1 + (int) (x >> 6)] |= 1L << x;
                } else if (i == 0 || x != list[i - 1] + 1) {
                    run++;
                    work[1 + (run >> 1)] |= (x | x << 16) << 32 * (run & 1);
                } else {
                    work[1 + (run >> 1)] += 1L << 16 + 32 * (run & 1);
                }
            }
            if (form == IN_RUNS && (run & 1) == 0) {
                work[length] |= work[length] << 32;
            }
            return length;
        }

        /** A number of a list, or the first (at an even place) or last number of a run. */
        private int numberAt(int id, int place) {
            return (int) (chunks[start[id] / CHUNK][start[id] % CHUNK + 1 + (place >> 2)] >>> 16 * (place & 3)) & 65535;
        }

        /** How many numbers or runs are to be looked at. */
        private int partsIn(int id) {
            long head = chunks[start[id] / CHUNK][start[id] % CHUNK];
            int length = (int) (head >>> LENGTH_SHIFT & 511);
            int form = (int) (head >>> FORM_SHIFT & 3);
            return form == LISTED ? (int) head & (1 << FORM_SHIFT) - 1 : form == IN_RUNS ? 2 * length : length;
        }

        /** Lays a set out as bits, in a row that has none yet. */
        void unpack(int id, long[] out) {
            int form = formOf(id);
            int parts = partsIn(id);
            if (form == AS_BITS) {
                System.arraycopy(chunks[start[id] / CHUNK], start[id] % CHUNK + 1, out, 0, Math.min(out.length, parts));
                return;
            }
            for (int i = 0; i < parts; i++) {
                if (form == LISTED) {
                    int x = numberAt(id, i);
                    out[x >> 6] |= 1L << x;
                } else {
                    layRun(out, numberAt(id, 2 * i), numberAt(id, 2 * i + 1));
                }
            }
        }

        private static void layRun(long[] out, int first, int last) {
            for (int w = first >> 6; w <= last >> 6; w++) {
                out[w] |= runIn(w, first, last);
            }
        }

        /** The bits of a run that are in a word. */
        private static long runIn(int word, int first, int last) {
            long from = word > first >> 6 ? -1L : -1L << first;
            return word < last >> 6 ? from : from & -1L >>> 63 - (last & 63);
        }

        /** The word that has the first bit of a set, or one before it. */
        int firstWord(int id) {
            return formOf(id) == AS_BITS || partsIn(id) == 0 ? 0 : numberAt(id, 0) >> 6;
        }

        /** The word behind that which has the last bit of a set. */
        int endWord(int id) {
            int form = formOf(id);
            int parts = partsIn(id);
            if (form == AS_BITS || parts == 0) {
                return parts;
            }
            return (numberAt(id, form == LISTED ? parts - 1 : 2 * parts - 1) >> 6) + 1;
        }

        boolean isListed(int id) {
            return formOf(id) == LISTED;
        }

        /** Writes the numbers of a set that is a list into a row from a place on; how many. */
        int list(int id, int[] into, int from) {
            int many = partsIn(id);
            for (int i = 0; i < many; i++) {
                into[from + i] = numberAt(id, i);
            }
            return many;
        }

        boolean contains(int id, int x) {
            int form = formOf(id);
            int parts = partsIn(id);
            if (form == AS_BITS) {
                long[] chunk = chunks[start[id] / CHUNK];
                return x >> 6 < parts && (chunk[start[id] % CHUNK + 1 + (x >> 6)] >>> x & 1L) != 0;
            }
            int each = form == LISTED ? 1 : 2;
            int low = 0;
            int high = parts;
            while (low < high) {
                int middle = low + high >>> 1;
                if (numberAt(id, each * middle + each - 1) < x) {
                    low = middle + 1;
                } else {
                    high = middle;
                }
            }
            return low < parts && numberAt(id, each * low) <= x;
        }

        /** Whether a set has a number of another. */
        boolean meets(int id, long[] set) {
            int form = formOf(id);
            int many = partsIn(id);
            long[] chunk = chunks[start[id] / CHUNK];
            int from = start[id] % CHUNK + 1;
            for (int i = 0; i < many; i++) {
                if (form == AS_BITS) {
                    if ((chunk[from + i] & set[i]) != 0) {
                        return true;
                    }
                } else if (form == LISTED) {
                    if (has(set, numberAt(id, i))) {
                        return true;
                    }
                } else if (runMeets(numberAt(id, 2 * i), numberAt(id, 2 * i + 1), set)) {
                    return true;
                }
            }
            return false;
        }

        private static boolean runMeets(int first, int last, long[] set) {
            for (int w = first >> 6; w <= last >> 6; w++) {
                if ((set[w] & runIn(w, first, last)) != 0) {
                    return true;
                }
            }
            return false;
        }
    }

    /** All valuations of the VARIABLES in the ORDER, and those that are STATES, INITIAL or have a truth. */
    static final class Space {
        private static final int FOR_EVERY = 0;
        private static final int FOR_INITIAL = 1;
        private static final int FOR_FAIR = 2;

        private Model model;
        private final Machine machine = new Machine();
        private final Sets store = new Sets();
        private final Rows tasks = new Rows(5, 8);
        private int places;
        private final int[] size = new int[BIT_LIMIT];
        private final int[] stride = new int[BIT_LIMIT];
        private final int[] first = new int[BIT_LIMIT];
        private int[] worth = new int[64];
        private int ranges;
        private int values;
        private int total;
        private int words;
        private boolean known;
        private final long[] every = new long[WORD_LIMIT];
        private final long[] initial = new long[WORD_LIMIT];
        private final long[] scratch = new long[WORD_LIMIT];
        private final long[] table = new long[WORD_LIMIT];
        private int[] projected = new int[64];
        private int fairSets;

        void begin(Model of) {
            model = of;
            known = false;
            places = 0;
            values = 0;
            ranges = 0;
            for (int v = 0; v < model.variables.size; v++) {
                int many = model.variables.get(v, W_SIZE);
                if (many > 1 && places < BIT_LIMIT) {
                    model.variables.set(v, W_PLACE, places);
                    size[places] = many;
                    ranges |= model.vars.get(model.variables.get(v, W_VAR), V_TYPE) == TYPE_LIST ? 0 : 1 << places;
                    first[places] = values;
                    values += many;
                    places++;
                }
            }
            worth = fitStates(worth, values, 1);
            for (int v = 0; v < model.variables.size; v++) {
                keepWorths(model.variables.get(v, W_VAR), model.variables.get(v, W_PLACE));
            }
            total = 1;
            for (int k = places - 1; k >= 0; k--) {
                stride[k] = total;
                total *= size[k];
            }
            words = total + 63 >> 6;
            projected = fitStates(projected, total, 1);
            machine.begin(this);
        }

        private void keepWorths(int varRow, int place) {
            if (place >= 0) {
                for (int d = 0; d < size[place]; d++) {
                    worth[first[place] + d] = model.worth(varRow, d);
                }
            }
        }

        int digit(int state, int place) {
            return state / Math.max(1, stride[place]) % Math.max(1, size[place]);
        }

        /** What a number below 2 to the 14 is multiplied with to be divided by n, 28 bits too far left. */
        long inverse(int n) {
            return ((1L << 2 * BIT_LIMIT) + n - 1) / Math.max(1, n);
        }

        /** The digit of a VALUE at a place, or -1 if the VARIABLE there does not have it. */
        int digitOf(int place, int value) {
            int from = first[place];
            int guess = value - worth[from];
            if (guess >= 0 && guess < size[place] && worth[from + guess] == value) {
                return guess;
            }
            if ((ranges >>> place & 1) != 0) {
                return -1;
            }
            for (int d = 0; d < size[place]; d++) {
                if (worth[from + d] == value) {
                    return d;
                }
            }
            return -1;
        }

        /** Finds the STATES, the INITIAL ones and where each FAIRNESS is true. */
        void know() {
            if (known) {
                return;
            }
            known = true;
            for (int w = 0; w < words; w++) {
                every[w] = total - w * 64 >= 64 ? -1L : (1L << total - w * 64) - 1;
            }
            System.arraycopy(every, 0, initial, 0, words);
            store.clear(total);
            tasks.clear();
            model.collect(K_INVAR, FORM_ALONE, FOR_EVERY, tasks);
            model.collect(K_INIT, FORM_INIT, FOR_INITIAL, tasks);
            int fairFrom = tasks.size;
            for (int f = 0; f < model.fairs.size; f++) {
                int row = tasks.put(model.fairs.get(f, 0), model.fairs.get(f, 1), model.fairs.get(f, 2), -1);
                tasks.set(row, T_STAGE, FOR_FAIR);
            }
            for (int t = 0; t < tasks.size; t++) {
                int stage = tasks.get(t, T_STAGE);
                machine.load(tasks.get(t, T_FROM), tasks.get(t, T_TO), tasks.get(t, T_WHERE));
                evaluate(tasks.get(t, T_VARIABLE), scratch);
                if (stage == FOR_FAIR) {
                    model.fairs.set(t - fairFrom, FAIR_SET, store.add(projected, listStates(scratch)));
                } else {
                    keepCommon(stage == FOR_EVERY ? every : initial, scratch);
                }
            }
            fairSets = store.number;
            keepCommon(initial, every);
        }

        /** Lists the STATES of a set in projected, which is free then. */
        private int listStates(long[] set) {
            int many = 0;
            for (int w = 0; w < words; w++) {
                long left = set[w] & every[w];
                for (int b = left == 0 ? 0 : Long.bitCount(left); b > 0; b--) {
                    projected[many] = w * 64 + Long.numberOfTrailingZeros(left);
                    many++;
                    left &= left - 1;
                }
            }
            return many;
        }

        void keepCommon(long[] set, long[] other) {
            for (int w = 0; w < words; w++) {
                set[w] &= other[w];
            }
        }

        /**
         * The valuations in which the loaded E is true; or, if it is a CHOICE for a VARIABLE (else
         * -1), those in which the VARIABLE has one of it.
         */
        void evaluate(int variable, long[] out) {
            int place = variable < 0 ? -1 : model.variables.get(variable, W_PLACE);
            int mask = place < 0 ? machine.mask : machine.mask | 1 << place;
            int turns = machine.rewind(mask);
            Arrays.fill(table, 0, machine.total + 63 >> 6, 0L);
            int only = variable < 0 ? 0 : model.variables.get(variable, W_ONLY);
            int c = 0;
            for (int i = 0; i < turns; i++) {
                machine.run();
                int[] results = machine.results();
                for (int k = 0; k < machine.lanes; k++) {
                    boolean on = variable < 0 ? results[k] != 0
                            : isChosen(k, place < 0 ? only : worth[first[place] + machine.digitAt(place, k)]);
                    table[c >> 6] |= on ? 1L << c : 0L;
                    c++;
                }
                machine.turn();
            }
            spread(mask, out);
        }

        private boolean isChosen(int lane, int value) {
            for (int i = 0; i < machine.choices(lane); i++) {
                if (machine.choice(lane, i) == value) {
                    return true;
                }
            }
            return false;
        }

        /** From the table over the VARIABLES of a mask to all valuations. */
        private void spread(int mask, long[] out) {
            project(mask);
            for (int w = 0; w < words; w++) {
                long bits = 0;
                int from = w * 64;
                int to = Math.min(64, total - from);
                for (int b = 0; b < to; b++) {
                    int c = projected[from + b];
                    bits |= (table[c >> 6] >>> c & 1L) << b;
                }
                out[w] = bits;
            }
        }

        /** For each valuation its number among those of the VARIABLES of a mask. */
        void project(int mask) {
            int weight = 1;
            projected[0] = 0;
            for (int k = places - 1; k >= 0; k--) {
                boolean counts = (mask >>> k & 1) != 0;
                int add = 0;
                for (int d = 1; d < size[k]; d++) {
                    add += counts ? weight : 0;
                    int from = d * stride[k];
                    for (int j = 0; j < stride[k]; j++) {
                        projected[from + j] = projected[j] + add;
                    }
                }
                weight *= counts ? size[k] : 1;
            }
        }

        int sizeOver(int mask) {
            int many = 1;
            for (int k = 0; k < places; k++) {
                many *= (mask >>> k & 1) != 0 ? size[k] : 1;
            }
            return many;
        }
    }

    /**
     * Which STATES GO to which. Each next and each part of a TRANS is a factor that looks at few
     * VARIABLES only, with a table, or it is wide and reckoned for one STATE after the other. If an
     * outer | is wide, each part of it is a branch with factors of its own, beside the common ones.
     * STATES for which all of these come out alike have one row; rows that find no room are made again.
     */
    static final class Relation {
        private static final int F_NOW = 0;
        private static final int F_THEN = 1;
        private static final int F_BASE = 2;
        private static final int F_OUTCOME = 3;
        private static final int F_LEVEL = 4;
        private static final int F_CHAIN = 5;
        private static final int TABLE_LIMIT = 1 << 15;
        private static final int TABLE_WORK = 1 << 18;
        private static final int TABLE_SHARE = 8;
        private static final int INPUT_LIMIT = 64;
        private static final int PIECE_LIMIT = 2048;
        private static final int LATEST = 64;
        private static final int AS_CHOICE = 0;
        private static final int AS_TRUTH = 1;
        // A branch, the first of which is what is common to all: where its rows begin, where its code begins
        // and ends, and how many steps it leaves.
        private static final int B_FACTORS = 0;
        private static final int B_WIDE = 1;
        private static final int B_FROM = 2;
        private static final int B_TO = 3;
        private static final int B_MOST = 4;
        private static final int BRANCH_WORK = 64;
        private static final int STEP_WORK = 24;
        private static final int NOW_SIDE = (1 << BIT_LIMIT) - 1;

        private final Space space;
        private final Rows factors = new Rows(6, 8);
        private final Rows pieces;
        private final Rows wide = new Rows(5, 4);
        private final Rows branches = new Rows(5, 4);
        private int branch;
        // The wide row whose | the branches are, or -1.
        private int branching;
        private int[] outs = new int[64];
        private int outsUsed;
        private int[] rowOf = new int[64];
        private int[] classOf = new int[64];
        private int[] keys = new int[64];
        private int[] buckets = new int[64];
        private int[] list = new int[64];
        private int listed;
        private int[] options = new int[64];
        private final int[] optionCount = new int[BIT_LIMIT];
        private final int[] widest = new int[2 * BIT_LIMIT];
        private final int[] levels = new int[BIT_LIMIT];
        private final int[] digits = new int[BIT_LIMIT];
        private final long[] alive = new long[WORD_LIMIT];
        private final long[] bits = new long[WORD_LIMIT];
        // Before and from these words on all bits are 0.
        private int bitsFrom;
        private int bitsTo;

        Relation(Space of) {
            space = of;
            pieces = of.tasks;
        }

        void begin() {
            factors.clear();
            wide.clear();
            branches.clear();
            branches.put(0, 0, 0, 0);
            branch = 0;
            branching = -1;
            outsUsed = 0;
            space.store.forget();
            rowOf = fitStates(rowOf, space.total, 1);
            classOf = fitStates(classOf, space.total, 1);
            list = fitStates(list, space.total, 1);
            keys = fitStates(keys, space.total, 2);
            int most = space.total <= SMALL_SPACE ? 2 * SMALL_SPACE : 2 * FULL_SPACE;
            buckets = buckets.length < most ? new int[most] : buckets;
            options = fitStates(options, space.values, 1);
            System.arraycopy(space.every, 0, alive, 0, space.words);
            System.arraycopy(space.size, 0, widest, 0, BIT_LIMIT);
            Arrays.fill(classOf, 0, space.total, 1);
        }

        /**
         * Each next is a factor; that of a VARIABLE of one VALUE says only whether there is a step at
         * all. What has been taken is an empty piece from then on.
         */
        void takeLines() {
            Model model = space.model;
            pieces.clear();
            model.collect(K_TRANS, FORM_NEXT, 0, pieces);
            for (int k = 0; k < pieces.size; k++) {
                int variable = pieces.get(k, T_VARIABLE);
                if (variable < 0) {
                    continue;
                }
                int from = pieces.get(k, T_FROM);
                int place = model.variables.get(variable, W_PLACE);
                space.machine.load(from, pieces.get(k, T_TO), pieces.get(k, T_WHERE));
                if (place < 0) {
                    space.evaluate(variable, space.scratch);
                    space.keepCommon(alive, space.scratch);
                } else if (hasRoom(place, space.machine.widestChoice)) {
                    tabulate(place);
                } else {
                    putAside(place, AS_CHOICE);
                }
                pieces.set(k, T_TO, from);
            }
        }

        /** Whether a table has room for what is loaded, which gives up to so many choices for a place. */
        private boolean hasRoom(int place, int most) {
            widest[place] = Math.min(widest[place], most);
            return fits(space.machine.mask, 1 << place, Math.min(most + 3 >> 2, space.size[place] + 63 >> 6));
        }

        /** What is loaded is wide. */
        private void putAside(int place, int form) {
            Rows program = space.machine.program;
            int last = program.size - 1;
            int row = wide.put(program.get(last, T_FROM), program.get(last, T_TO), program.get(last, T_WHERE), place);
            wide.set(row, T_STAGE, form);
        }

        private boolean fits(int nowMask, int thenMask, int span) {
            long cells = space.sizeOver(nowMask);
            long more = factorOf(nowMask, thenMask) < 0 ? cells : 0;
            return outsUsed + more <= TABLE_LIMIT && space.store.used - space.store.oldUsed + cells * (span + 1) <= 2 * TABLE_LIMIT;
        }

        /** The factor of the latest branch that looks at these VARIABLES, or -1. */
        private int factorOf(int nowMask, int thenMask) {
            for (int f = branches.get(branches.size - 1, B_FACTORS); f < factors.size; f++) {
                if (factors.get(f, F_NOW) == nowMask && factors.get(f, F_THEN) == thenMask) {
                    return f;
                }
            }
            return -1;
        }

        /** What is loaded is for each valuation of its VARIABLES what next has at a place. */
        private void tabulate(int place) {
            int mask = space.machine.mask;
            boolean again = factorOf(mask, 1 << place) >= 0;
            int c = openTable(mask, 1 << place);
            int turns = space.machine.rewind(mask);
            int most = 0;
            for (int i = 0; i < turns; i++) {
                space.machine.run();
                for (int lane = 0; lane < space.machine.lanes; lane++) {
                    listDigits(place, lane);
                    write(c, again);
                    most = Math.max(most, listed);
                    c++;
                }
                space.machine.turn();
            }
            widest[place] = Math.min(widest[place], most);
        }

        /** Where the table of a factor begins, which is made if there is none. */
        private int openTable(int nowMask, int thenMask) {
            int known = factorOf(nowMask, thenMask);
            if (known >= 0) {
                return factors.get(known, F_BASE);
            }
            int base = reserve(space.sizeOver(nowMask));
            int row = factors.put(nowMask, thenMask, base, 0);
            factors.set(row, F_LEVEL, levelOf(thenMask));
            return base;
        }

        /** Writes the list into a table; of what stands there already, that which both have is left. */
        private void write(int c, boolean again) {
            int left = 0;
            for (int i = 0; i < listed; i++) {
                list[left] = list[i];
                left += !again || space.store.contains(outs[c], list[i]) ? 1 : 0;
            }
            listed = left;
            outs[c] = space.store.add(list, listed);
        }

        private int reserve(int many) {
            int base = outsUsed;
            outsUsed += many;
            if (outsUsed > outs.length) {
                outs = Arrays.copyOf(outs, outsUsed <= SMALL_SPACE ? SMALL_SPACE : Math.max(outsUsed, TABLE_LIMIT));
            }
            return base;
        }

        /** Writes the choices as digits of a place into the list, rising and each once. */
        private void listDigits(int place, int lane) {
            int words = space.size[place] + 63 >> 6;
            int many = space.machine.choices(lane);
            listed = 0;
            if (many == 1) {
                list[0] = space.digitOf(place, space.machine.choice(lane, 0));
                listed = list[0] < 0 ? 0 : 1;
                return;
            }
            clearBits(0, words);
            for (int i = 0; i < many; i++) {
                int d = space.digitOf(place, space.machine.choice(lane, i));
                if (d >= 0) {
                    bits[d >> 6] |= 1L << d;
                }
            }
            listed = listBits(bits, list, 0, words);
        }

        /** Writes the numbers of a set into a row from a place on; how many. */
        private int listBits(long[] set, int[] into, int from, int words) {
            int told = 0;
            for (int w = 0; w < words; w++) {
                long left = set[w];
                for (int b = left == 0 ? 0 : Long.bitCount(left); b > 0; b--) {
                    into[from + told] = w * 64 + Long.numberOfTrailingZeros(left);
                    told++;
                    left &= left - 1;
                }
            }
            return told;
        }

        /** Parts the classes by what stands in a table for the valuations of a mask (or, without one, by these). */
        private void refine(int mask, int[] table, int base) {
            space.project(mask);
            int fold = Math.min(buckets.length, 4 * Integer.highestOneBit(space.total)) - 1;
            Arrays.fill(buckets, 0, fold + 1, -1);
            int number = 0;
            for (int s = 0; s < space.total; s++) {
                int c = space.projected[s];
                int b = table == null ? c : table[base + c];
                int a = classOf[s];
                int h = hashOf(a, b) & fold;
                for (int i = 0; i <= fold; i++) {
                    int id = buckets[h];
                    if (id < 0) {
                        keys[2 * number] = a;
                        keys[2 * number + 1] = b;
                        buckets[h] = number;
                        classOf[s] = number;
                        number++;
                        break;
                    }
                    if (keys[2 * id] == a && keys[2 * id + 1] == b) {
                        classOf[s] = id;
                        break;
                    }
                    h = h == fold ? 0 : h + 1;
                }
            }
        }

        private static int hashOf(int a, int b) {
            int h = a * 0x9E3779B1 + b * 0x85EBCA6B;
            return h ^ h >>> 15;
        }

        /**
         * What stands on both sides of an outer & are pieces of their own, but not where no next is, nor
         * beyond a limit: each INSTANCE would bring all & of its TRANS once more.
         */
        void splitPieces() {
            Model model = space.model;
            for (int k = 0; k < pieces.size; k++) {
                int firstNext = firstNext(pieces.get(k, T_FROM), pieces.get(k, T_TO));
                for (int i = 0; i < TAPE_LIMIT && pieces.size < PIECE_LIMIT; i++) {
                    int to = pieces.get(k, T_TO);
                    if (to <= firstNext || model.code.get(to - 1, 0) != OP_AND) {
                        break;
                    }
                    int middle = model.startOf(to - 2);
                    if (!isThere(middle, to - 1, pieces.get(k, T_WHERE))) {
                        pieces.put(middle, to - 1, pieces.get(k, T_WHERE), -1);
                    }
                    pieces.set(k, T_TO, middle);
                }
            }
        }

        private int firstNext(int from, int to) {
            for (int i = from; i < to; i++) {
                if (space.model.code.get(i, 0) == OP_NEXT) {
                    return i;
                }
            }
            return to;
        }

        /** Whether one of the latest pieces says the same. */
        private boolean isThere(int from, int to, int where) {
            for (int k = pieces.size - 1; k >= 0 && k >= pieces.size - LATEST; k--) {
                int start = pieces.get(k, T_FROM);
                if (pieces.get(k, T_WHERE) == where && pieces.get(k, T_TO) - start == to - from
                        && space.model.isAlike(start, from, to - from, where)) {
                    return true;
                }
            }
            return false;
        }

        /** A piece next(x) = E or next(x) in {..} is reckoned as a CHOICE is, and is empty then. */
        void takeEquals() {
            Model model = space.model;
            for (int k = 0; k < pieces.size; k++) {
                int side = sideOfNext(k);
                if (side == 0) {
                    continue;
                }
                int from = pieces.get(k, T_FROM);
                int last = pieces.get(k, T_TO) - 1;
                int where = pieces.get(k, T_WHERE);
                int ref = model.code.get(side < 0 ? from : last - 1, 1);
                int place = model.variables.get(model.reach(ref, where), W_PLACE);
                int start = side < 0 ? from + 1 : from;
                int stop = side < 0 ? last : last - 1;
                space.machine.load(start, stop, where);
                if (place >= 0 && space.machine.mask >>> BIT_LIMIT == 0) {
                    pieces.set(k, T_TO, from);
                    if (hasRoom(place, model.code.get(last, 0) == OP_IN ? model.code.get(last, 1) : 1)) {
                        tabulate(place);
                    } else {
                        putAside(place, AS_CHOICE);
                    }
                }
            }
        }

        /** -1 if just next stands left of an outer = or in, 1 if right of =, else 0. */
        private int sideOfNext(int k) {
            Model model = space.model;
            int from = pieces.get(k, T_FROM);
            int last = pieces.get(k, T_TO) - 1;
            int op = model.code.get(last, 0);
            if (last < from || op != OP_EQ && op != OP_IN) {
                return 0;
            }
            int first = last - 1;
            for (int i = 1; i < partsOf(op, model.code.get(last, 1)); i++) {
                first = model.startOf(first) - 1;
            }
            if (first == from && model.code.get(from, 0) == OP_NEXT) {
                return -1;
            }
            return op == OP_EQ && model.code.get(last - 1, 0) == OP_NEXT ? 1 : 0;
        }

        /** Other pieces have a table, if that is not more work than to look at the steps that are left. */
        void takePieces() {
            int most = mostSteps();
            for (int k = 0; k < pieces.size; k++) {
                int from = pieces.get(k, T_FROM);
                int to = pieces.get(k, T_TO);
                if (to <= from) {
                    continue;
                }
                space.machine.load(from, to, pieces.get(k, T_WHERE));
                int nowMask = space.machine.mask & NOW_SIDE;
                int thenMask = space.machine.mask >>> BIT_LIMIT;
                int thenMany = space.sizeOver(thenMask);
                long pairs = (long) space.sizeOver(nowMask) * thenMany;
                long steps = (long) space.total * most;
                boolean isNarrow = isOne(thenMask) && thenMany < most;
                if (thenMask == 0 && branches.size == 1) {
                    space.evaluate(-1, space.scratch);
                    space.keepCommon(alive, space.scratch);
                } else if (pairs > steps || !fits(nowMask, thenMask, thenMany + 63 >> 6)
                        || !isNarrow && TABLE_SHARE * pairs > steps && pairs * (to - from) > TABLE_WORK && isFirstOr(to)) {
                    putAside(isNarrow ? levelOf(thenMask) : -1, AS_TRUTH);
                } else {
                    takeTable(nowMask, thenMask, thenMany);
                }
            }
            branches.set(branches.size - 1, B_MOST, mostSteps());
        }

        /** Whether branches can be made of a piece that ends there, and of none before it. */
        private boolean isFirstOr(int to) {
            return branches.size == 1 && space.model.code.get(to - 1, 0) == OP_OR && longestOr() < 0;
        }

        /** To how many STATES one can GO at most, as far as that is known. */
        private int mostSteps() {
            int most = 1;
            for (int p = 0; p < space.places; p++) {
                most *= widest[p];
            }
            return most;
        }

        private static int levelOf(int thenMask) {
            return 31 - Integer.numberOfLeadingZeros(thenMask);
        }

        private static boolean isOne(int thenMask) {
            return thenMask != 0 && (thenMask & thenMask - 1) == 0;
        }

        private void takeTable(int nowMask, int thenMask, int thenMany) {
            boolean again = factorOf(nowMask, thenMask) >= 0;
            int c = openTable(nowMask, thenMask);
            int turns = space.machine.rewind(space.machine.mask);
            int most = 0;
            int t = 0;
            listed = 0;
            for (int i = 0; i < turns; i++) {
                space.machine.run();
                int[] results = space.machine.results();
                for (int lane = 0; lane < space.machine.lanes; lane++) {
                    list[listed] = t;
                    listed += results[lane];
                    t++;
                    if (t == thenMany) {
                        write(c, again);
                        most = Math.max(most, listed);
                        c++;
                        listed = 0;
                        t = 0;
                    }
                }
                space.machine.turn();
            }
            if (isOne(thenMask)) {
                widest[levelOf(thenMask)] = Math.min(widest[levelOf(thenMask)], most);
            }
        }

        /**
         * Begins the next branch: the last part of the outer | that is left becomes the one piece. False
         * if none is left, or there is no wide |.
         */
        boolean openBranch() {
            if (branches.size == 1) {
                branching = longestOr();
                branches.set(0, B_TO, wide.get(branching, T_TO));
                System.arraycopy(widest, 0, widest, BIT_LIMIT, BIT_LIMIT);
            }
            int from = wide.get(branching, T_FROM);
            int where = wide.get(branching, T_WHERE);
            for (int i = 0; i < TAPE_LIMIT && wide.get(branching, T_TO) > from; i++) {
                int to = wide.get(branching, T_TO);
                boolean isOr = space.model.code.get(to - 1, 0) == OP_OR && factors.size + wide.size < PIECE_LIMIT;
                int middle = isOr ? space.model.startOf(to - 2) : from;
                int end = isOr ? to - 1 : to;
                wide.set(branching, T_TO, middle);
                if (!isBranch(middle, end, where)) {
                    branches.put(factors.size, wide.size, middle, end);
                    System.arraycopy(widest, BIT_LIMIT, widest, 0, BIT_LIMIT);
                    pieces.clear();
                    pieces.put(middle, end, where, -1);
                    return true;
                }
            }
            return false;
        }

        /** Whether one of the latest branches says the same. */
        private boolean isBranch(int from, int to, int where) {
            for (int b = branches.size - 1; b > 0 && b >= branches.size - LATEST; b--) {
                int start = branches.get(b, B_FROM);
                if (branches.get(b, B_TO) - start == to - from && space.model.isAlike(start, from, to - from, where)) {
                    return true;
                }
            }
            return false;
        }

        /** The longest wide truth that is an outer |, or -1. */
        private int longestOr() {
            int found = -1;
            int most = 0;
            for (int k = 0; k < wide.size; k++) {
                int to = wide.get(k, T_TO);
                boolean isOr = wide.get(k, T_VARIABLE) < 0 && space.model.code.get(to - 1, 0) == OP_OR;
                if (isOr && to - wide.get(k, T_FROM) > most) {
                    most = to - wide.get(k, T_FROM);
                    found = k;
                }
            }
            return found;
        }

        /** Branches that leave so many steps that they are more work than the whole | are taken back. */
        void weighBranches() {
            if (branching < 0) {
                return;
            }
            long work = 0;
            for (int b = 1; b < branches.size; b++) {
                work += BRANCH_WORK + branches.get(b, B_MOST);
            }
            int length = branches.get(0, B_TO) - wide.get(branching, T_FROM);
            if (STEP_WORK * work > (long) branches.get(0, B_MOST) * length) {
                int first = branches.get(1, B_FACTORS);
                outsUsed = first < factors.size ? factors.get(first, F_BASE) : outsUsed;
                factors.cut(first);
                wide.cut(branches.get(1, B_WIDE));
                wide.set(branching, T_TO, branches.get(0, B_TO));
                branches.cut(1);
            }
        }

        /**
         * STATES for which all factors come out alike are of one class, if what is wide does so too: that
         * depends on its parts without next alone.
         */
        void partClasses() {
            for (int f = 0; f < factors.size; f++) {
                refine(factors.get(f, F_NOW), outs, factors.get(f, F_BASE));
            }
            pieces.clear();
            int all = 0;
            for (int k = 0; k < wide.size; k++) {
                space.machine.load(wide.get(k, T_FROM), wide.get(k, T_TO), wide.get(k, T_WHERE));
                if (wide.get(k, T_STAGE) == AS_CHOICE) {
                    refine(space.machine.mask, null, 0);
                } else {
                    noteInputs(wide.get(k, T_FROM), wide.get(k, T_TO), wide.get(k, T_WHERE));
                    all |= space.machine.mask & NOW_SIDE;
                }
            }
            if (pieces.size > INPUT_LIMIT) {
                refine(all, null, 0);
                return;
            }
            for (int k = 0; k < pieces.size; k++) {
                space.machine.load(pieces.get(k, T_FROM), pieces.get(k, T_TO), pieces.get(k, T_WHERE));
                if (space.machine.mask != 0) {
                    partBy(space.machine.mask);
                }
            }
        }

        /** The largest parts of an E that have no next in them, or all of it, till it is seen that there are too many. */
        private void noteInputs(int from, int to, int where) {
            Model model = space.model;
            Rows open = model.open;
            open.clear();
            if (firstNext(from, to) == to && to > from && pieces.size <= INPUT_LIMIT) {
                pieces.put(from, to, where, -1);
                return;
            }
            for (int i = from; i < to; i++) {
                int op = model.code.get(i, 0);
                int base = open.size - Math.min(open.size, partsOf(op, model.code.get(i, 1)));
                int start = base < open.size ? open.get(base, 0) : i;
                int moves = op == OP_NEXT ? 1 : 0;
                for (int k = base; k < open.size; k++) {
                    moves |= open.get(k, 1);
                }
                for (int k = base; k < open.size && moves != 0 && pieces.size <= INPUT_LIMIT; k++) {
                    if (open.get(k, 1) == 0) {
                        pieces.put(open.get(k, 0), k + 1 < open.size ? open.get(k + 1, 0) : i, where, -1);
                    }
                }
                open.cut(base);
                open.put(start, moves, 0, 0);
            }
        }

        private void partBy(int mask) {
            int turns = space.machine.rewind(mask);
            int c = 0;
            for (int i = 0; i < turns; i++) {
                space.machine.run();
                System.arraycopy(space.machine.results(), 0, rowOf, c, space.machine.lanes);
                c += space.machine.lanes;
                space.machine.turn();
            }
            refine(mask, rowOf, 0);
        }

        /**
         * Makes ready for rows: the first is that of STATES that GO to none. Factors of more than one
         * VARIABLE are asked when the last of these gets its digit.
         */
        void openRows() {
            space.store.forget();
            space.store.add(list, 0);
            Arrays.fill(keys, 0, space.total + 1, -1);
            Arrays.fill(levels, -1);
            for (int f = 0; f < factors.size; f++) {
                int level = factors.get(f, F_LEVEL);
                if (level >= 0 && !isOne(factors.get(f, F_THEN))) {
                    factors.set(f, F_CHAIN, levels[level]);
                    levels[level] = f;
                }
            }
        }

        int rowCount() {
            return space.store.number - space.store.oldNumber;
        }

        /** Gives a STATE its row, if that is known. */
        boolean findRow(int state) {
            rowOf[state] = has(alive, state) ? keys[classOf[state]] : 0;
            return rowOf[state] >= 0;
        }

        /** Keeps the row that has been made for a STATE. */
        void keepRow(int state) {
            rowOf[state] = space.store.add(list, listed) - space.store.oldNumber;
            keys[classOf[state]] = rowOf[state];
        }

        int sizeOfRow(int row) {
            return space.store.sizeOf(space.store.oldNumber + row);
        }

        boolean isAbsent(int row) {
            return space.store.isAbsent(space.store.oldNumber + row);
        }

        /** Takes all bits away; only in these words there may be some then. */
        private void clearBits(int from, int to) {
            Arrays.fill(bits, bitsFrom, bitsTo, 0L);
            bitsFrom = from;
            bitsTo = to;
        }

        /** Lays a row that is kept out as bits. */
        void recall(int row) {
            int id = space.store.oldNumber + row;
            clearBits(space.store.firstWord(id), space.store.endWord(id));
            space.store.unpack(id, bits);
        }

        /** Lays the list out as bits. */
        void layList() {
            clearBits(listed == 0 ? 0 : list[0] >> 6, listed == 0 ? 0 : (list[listed - 1] >> 6) + 1);
            for (int i = 0; i < listed; i++) {
                bits[list[i] >> 6] |= 1L << list[i];
            }
        }

        int firstBranch() {
            return branches.size > 1 ? 1 : 0;
        }

        /** Where the common rows end that a column of the branches counts. */
        private int commonEnd(int column) {
            return branches.size > 1 ? branches.get(1, column) : column == B_FACTORS ? factors.size : wide.size;
        }

        /** Where those of the branch itself end. */
        private int branchEnd(int column) {
            return branch + 1 < branches.size ? branches.get(branch + 1, column) : column == B_FACTORS ? factors.size : wide.size;
        }

        /** How many rows the branch itself has beside the common ones. */
        private int ownRows(int column) {
            return branch == 0 ? 0 : branchEnd(column) - branches.get(branch, column);
        }

        void beginRow() {
            listed = 0;
            Arrays.fill(space.scratch, 0, space.words, 0L);
        }

        /** Begins the row of a STATE by a branch: what tables of one VARIABLE leave; false if they leave nothing. */
        boolean pose(int state, int by) {
            branch = by;
            listed = 0;
            for (int k = 0; k < space.places; k++) {
                digits[k] = space.digit(state, k);
                optionCount[k] = -1;
                space.machine.pose(k, digits[k]);
            }
            int common = commonEnd(B_FACTORS);
            int own = branches.get(branch, B_FACTORS) - common;
            int many = common + ownRows(B_FACTORS);
            for (int i = 0; i < many; i++) {
                int f = i < common ? i : i + own;
                int outcome = outs[factors.get(f, F_BASE) + indexOf(factors.get(f, F_NOW))];
                factors.set(f, F_OUTCOME, outcome);
                if (space.store.sizeOf(outcome) == 0) {
                    return false;
                }
                if (isOne(factors.get(f, F_THEN))) {
                    narrowTo(outcome, factors.get(f, F_LEVEL));
                }
            }
            return true;
        }

        /** Leaves the options of a place that are in a set. */
        private void narrowTo(int set, int place) {
            if (optionCount[place] < 0 && space.store.isListed(set)) {
                optionCount[place] = space.store.list(set, options, space.first[place]);
                return;
            }
            clearBits(0, space.size[place] + 63 >> 6);
            space.store.unpack(set, bits);
            narrow(place);
        }

        /** What wide choices, and wide truths of one VARIABLE, leave. */
        void choose() {
            int common = commonEnd(B_WIDE);
            int own = branches.get(branch, B_WIDE) - common;
            int many = common + ownRows(B_WIDE);
            for (int w = 0; w < many; w++) {
                int k = w < common ? w : w + own;
                int place = wide.get(k, T_VARIABLE);
                if (place < 0) {
                    continue;
                }
                boolean isTruth = wide.get(k, T_STAGE) == AS_TRUTH;
                space.machine.load(wide.get(k, T_FROM), wide.get(k, T_TO), wide.get(k, T_WHERE));
                int turns = space.machine.rewind(isTruth ? 1 << place + BIT_LIMIT : 0);
                listed = 0;
                for (int i = 0; i < turns; i++) {
                    space.machine.run();
                    if (isTruth) {
                        listTruths();
                    } else {
                        listDigits(place, 0);
                    }
                    space.machine.turn();
                }
                layList();
                narrow(place);
            }
        }

        /** Adds to the list those for which what was reckoned is true. */
        private void listTruths() {
            int[] results = space.machine.results();
            for (int lane = 0; lane < space.machine.lanes; lane++) {
                list[listed] = space.machine.at + lane;
                listed += results[lane];
            }
        }

        /** Leaves the options of a place that are in bits. */
        private void narrow(int place) {
            int from = space.first[place];
            if (optionCount[place] < 0) {
                optionCount[place] = listBits(bits, options, from, space.size[place] + 63 >> 6);
                return;
            }
            int left = 0;
            for (int i = 0; i < optionCount[place]; i++) {
                int d = options[from + i];
                if (has(bits, d)) {
                    options[from + left] = d;
                    left++;
                }
            }
            optionCount[place] = left;
        }

        /** Lists the STATES that all but the wide truths leave. */
        void spell() {
            int free = 0;
            for (int k = 0; k < space.places; k++) {
                free = optionCount[k] >= 0 || levels[k] >= 0 ? k + 1 : free;
            }
            for (int k = 0; k < free; k++) {
                if (optionCount[k] < 0) {
                    optionCount[k] = space.size[k];
                    for (int d = 0; d < space.size[k]; d++) {
                        options[space.first[k] + d] = d;
                    }
                }
            }
            listed = extend(0, 0, 0, free);
        }

        /** Lists, in the ORDER, the STATES that the options leave; the depth is that of the places. */
        private int extend(int place, int state, int told, int free) {
            int many = told;
            if (place >= free || place >= BIT_LIMIT) {
                int end = state + (place == 0 ? space.total : space.stride[place - 1]);
                for (int t = state; t < end; t++) {
                    list[many] = t;
                    many += (int) (space.every[t >> 6] >>> t & 1L);
                }
                return many;
            }
            int from = space.first[place];
            for (int i = 0; i < optionCount[place]; i++) {
                int d = options[from + i];
                digits[place] = d;
                if (levels[place] < 0 || isLeft(place)) {
                    many = extend(place + 1, state + d * space.stride[place], many, free);
                }
            }
            return many;
        }

        private boolean isLeft(int place) {
            int common = commonEnd(B_FACTORS);
            int start = branches.get(branch, B_FACTORS);
            int end = branchEnd(B_FACTORS);
            int f = levels[place];
            for (int i = 0; i < factors.size && f >= 0; i++) {
                boolean counts = f < common || f >= start && f < end;
                if (counts && !space.store.contains(factors.get(f, F_OUTCOME), indexOf(factors.get(f, F_THEN)))) {
                    return false;
                }
                f = factors.get(f, F_CHAIN);
            }
            return true;
        }

        private int indexOf(int mask) {
            int index = 0;
            for (int k = 0; k < space.places; k++) {
                if ((mask >>> k & 1) != 0) {
                    index = index * space.size[k] + digits[k];
                }
            }
            return index;
        }

        /** Takes out of the list what the wide truths do not leave. */
        void sift() {
            int common = commonEnd(B_WIDE);
            int own = branches.get(branch, B_WIDE) - common;
            int many = common + ownRows(B_WIDE);
            for (int w = 0; w < many; w++) {
                int k = w < common ? w : w + own;
                if (wide.get(k, T_VARIABLE) >= 0 || wide.get(k, T_TO) <= wide.get(k, T_FROM)) {
                    continue;
                }
                space.machine.load(wide.get(k, T_FROM), wide.get(k, T_TO), wide.get(k, T_WHERE));
                space.machine.beginList();
                int left = 0;
                int at = 0;
                for (int i = 0; i < listed && at < listed; i++) {
                    int taken = space.machine.takeList(list, at, listed - at);
                    space.machine.run();
                    left += leave(space.machine.results(), at, taken, left);
                    at += taken;
                }
                listed = left;
            }
        }

        /** Adds the list of a branch to the row. */
        void gather() {
            for (int i = 0; i < listed && branches.size > 1; i++) {
                space.scratch[list[i] >> 6] |= 1L << list[i];
            }
        }

        /** The list is then what all branches gave. */
        void endRow() {
            if (branches.size > 1) {
                listed = listBits(space.scratch, list, 0, space.words);
            }
        }

        /** Moves what is true of a piece of the list to a place before it; how many that are. */
        private int leave(int[] truths, int from, int many, int to) {
            int all = 0;
            for (int k = 0; k < many; k++) {
                all += truths[k];
            }
            if (all == many) {
                System.arraycopy(list, from, list, to, many);
                return many;
            }
            int[] states = list;
            int left = to;
            for (int k = 0; k < many && all > 0; k++) {
                states[left] = states[from + k];
                left += truths[k];
            }
            return all;
        }
    }

    /**
     * Paths over the rows of a relation: what can be reached, kept up for ever, or led to. It works by
     * single visits to rows: it says which row is wanted, and goes on when that is laid out as bits.
     */
    static final class Graph {
        private static final int OPENING = 0;
        private static final int NEARING = 1;
        private static final int ENTERING = 2;
        private static final int RETURNING = 3;
        private static final int CIRCLING = 4;
        private static final int CLIMBING = 5;
        private static final int FETCHING = 6;
        // Columns of a row; PATH, PILE and MEMBERS are columns that are filled for themselves.
        private static final int N_MEMBERS = 0;
        private static final int N_INDEX = 1;
        private static final int N_LOW = 2;
        private static final int N_CURSOR = 3;
        private static final int N_LEADS = 4;
        private static final int N_PATH = 5;
        private static final int N_PILE = 6;
        private static final int N_WIDTH = 7;
        private static final int FEW = 64;

        private final Space space;
        private final Relation relation;
        private final long[] fairStates = new long[WORD_LIMIT];
        private final long[] reached = new long[WORD_LIMIT];
        private final long[] unseen = new long[WORD_LIMIT];
        private final long[] piled = new long[WORD_LIMIT];
        private final long[] around = new long[WORD_LIMIT];
        private final long[] among = new long[WORD_LIMIT];
        private long[] goal;
        private boolean endless;
        private int[] nodes = new int[64];
        private int[] members = new int[64];
        private int[] queue = new int[64];
        private int[] parent = new int[64];
        private int job;
        private int wanted = -1;
        // Before this word the set that is being emptied is empty.
        private int cursor;
        private int head;
        private int tail;
        private int told;
        private int pathSize;
        private int pileSize;
        private int entered;

        Graph(Space of, Relation over) {
            space = of;
            relation = over;
            goal = reached;
        }

        private int node(int row, int column) {
            return nodes[row * N_WIDTH + column];
        }

        private void setNode(int row, int column, int value) {
            nodes[row * N_WIDTH + column] = value;
        }

        private void clearNodes() {
            int end = relation.rowCount() * N_WIDTH;
            for (int at = N_INDEX; at < end; at += N_WIDTH) {
                nodes[at] = 0;
            }
        }

        /** Lays the STATES that share a row side by side. */
        void begin() {
            int number = relation.rowCount();
            nodes = fitStates(nodes, space.total, N_WIDTH);
            members = fitStates(members, space.total, 1);
            queue = fitStates(queue, space.total, 1);
            parent = fitStates(parent, space.total, 1);
            wanted = -1;
            for (int row = 0; row < number + 2; row++) {
                setNode(row, N_MEMBERS, 0);
            }
            for (int s = 0; s < space.total; s++) {
                int row = relation.rowOf[s] + 2;
                setNode(row, N_MEMBERS, node(row, N_MEMBERS) + 1);
            }
            for (int row = 2; row <= number; row++) {
                setNode(row, N_MEMBERS, node(row, N_MEMBERS) + node(row - 1, N_MEMBERS));
            }
            for (int s = 0; s < space.total; s++) {
                int row = relation.rowOf[s] + 1;
                members[node(row, N_MEMBERS)] = s;
                setNode(row, N_MEMBERS, node(row, N_MEMBERS) + 1);
            }
        }

        int memberOf(int row) {
            return members[node(row, N_MEMBERS)];
        }

        /** Goes on with the row that was wanted. */
        void visit() {
            switch (job) {
                case OPENING:
                    open();
                    break;
                case NEARING:
                    near();
                    break;
                case ENTERING:
                    enter(wanted);
                    descend(wanted);
                    break;
                case RETURNING:
                    descend(wanted);
                    break;
                case CIRCLING:
                    circle();
                    break;
                default:
                    wanted = -1;
                    break;
            }
            if (job == CLIMBING) {
                climb();
            }
        }

        /** Wants a row for its bits alone. */
        void fetch(int state) {
            job = FETCHING;
            wanted = relation.rowOf[state];
        }

        /** Seeks all that can be reached. */
        void explore() {
            System.arraycopy(space.initial, 0, reached, 0, space.words);
            head = 0;
            tail = 0;
            for (int w = 0; w < space.words; w++) {
                unseen[w] = space.every[w] & ~reached[w];
            }
            for (int s = 0; s < space.total; s++) {
                if (has(reached, s)) {
                    queue[tail] = s;
                    tail++;
                }
            }
            goal = null;
            cursor = 0;
            clearNodes();
            openNext();
        }

        /**
         * Seeks the LEAST PATH of one step or more from a STATE through a set to a goal: what comes
         * first in the queue has come there by the first of the shortest ways.
         */
        void lead(int start, long[] through, long[] to) {
            for (int w = 0; w < space.words; w++) {
                unseen[w] = through[w] | to[w];
            }
            if (!has(to, start)) {
                unseen[start >> 6] &= ~(1L << start);
            }
            goal = to;
            cursor = 0;
            clearNodes();
            queue[0] = start;
            head = 0;
            tail = 1;
            openNext();
        }

        /** Wants the row of the next STATE in the queue whose followers are not in it yet. */
        private void openNext() {
            job = OPENING;
            told = -1;
            wanted = -1;
            for (; head < tail && wanted < 0 && !isEmptied(unseen); head++) {
                int row = relation.rowOf[queue[head]];
                if (node(row, N_INDEX) == 0) {
                    setNode(row, N_INDEX, 1);
                    wanted = row;
                }
            }
            if (wanted < 0 && goal == null) {
                for (int i = 0; i < tail; i++) {
                    reached[queue[i] >> 6] |= 1L << queue[i];
                }
            }
        }

        /** Queues what is unseen in the row, in the ORDER; told is the first of the goal in it. */
        private void open() {
            int state = queue[head - 1];
            for (int w = relation.bitsFrom; w < relation.bitsTo; w++) {
                long left = relation.bits[w] & unseen[w];
                unseen[w] &= ~left;
                for (int b = left == 0 ? 0 : Long.bitCount(left); b > 0; b--) {
                    int t = w * 64 + Long.numberOfTrailingZeros(left);
                    left &= left - 1;
                    parent[t] = state;
                    if (goal != null && has(goal, t)) {
                        told = t;
                        wanted = -1;
                        return;
                    }
                    queue[tail] = t;
                    tail++;
                }
            }
            openNext();
        }

        /** Writes the way that was found behind its start into a trail; how many steps. */
        int writeTrail(int start, int[] trail, int from) {
            if (told < 0) {
                return 0;
            }
            int many = 1;
            for (int s = parent[told]; s != start && many <= space.total; s = parent[s]) {
                many++;
            }
            int s = told;
            for (int i = many - 1; i >= 0; i--) {
                if (from + i < trail.length) {
                    trail[from + i] = s;
                }
                s = parent[s];
            }
            return many;
        }

        /** Seeks what EX, EU or EG make of sets, by FAIR PATHS; out may be one of these. */
        void reckon(int op, long[] through, long[] to, long[] out) {
            for (int w = 0; w < space.words; w++) {
                long there = op == OP_EG ? 0L : to[w] & fairStates[w];
                among[w] = op == OP_EX ? there : through[w] & ~there;
                out[w] = there;
            }
            goal = out;
            if (op == OP_EX) {
                job = NEARING;
                wanted = 0;
            } else {
                sweep(op == OP_EG);
            }
        }

        /** Seeks the FAIR STATES. */
        void findFair() {
            System.arraycopy(space.every, 0, among, 0, space.words);
            Arrays.fill(fairStates, 0, space.words, 0L);
            goal = fairStates;
            sweep(true);
        }

        private void near() {
            int row = wanted;
            setNode(row, N_INDEX, rowMeets(among) ? 1 : 0);
            wanted = row + 1 < relation.rowCount() ? row + 1 : -1;
            if (wanted < 0) {
                Arrays.fill(goal, 0, space.words, 0L);
                for (int s = 0; s < space.total; s++) {
                    goal[s >> 6] |= (long) node(relation.rowOf[s], N_INDEX) << s;
                }
            }
        }

        /** Whether the row that is laid out leads into a set. */
        private boolean rowMeets(long[] set) {
            for (int w = relation.bitsFrom; w < relation.bitsTo; w++) {
                if ((relation.bits[w] & set[w]) != 0) {
                    return true;
                }
            }
            return false;
        }

        /** Whether nothing is left of the set that is being emptied; else the cursor is at its first word. */
        private boolean isEmptied(long[] set) {
            while (cursor < space.words && set[cursor] == 0) {
                cursor++;
            }
            return cursor >= space.words;
        }

        /**
         * Adds to goal what leads through among into it; or, for ever, into a ring in among with each
         * FAIRNESS in it. Rows are the nodes here, and those that lead to each other are found
         * together, the last ones first.
         */
        private void sweep(boolean forEver) {
            endless = forEver;
            System.arraycopy(among, 0, unseen, 0, space.words);
            Arrays.fill(piled, 0, space.words, 0L);
            entered = 0;
            pileSize = 0;
            pathSize = 0;
            cursor = 0;
            enterNext();
        }

        private void enterNext() {
            job = ENTERING;
            wanted = -1;
            if (!isEmptied(unseen)) {
                wanted = relation.rowOf[cursor * 64 + Long.numberOfTrailingZeros(unseen[cursor])];
            }
        }

        private void enter(int row) {
            entered++;
            setNode(row, N_INDEX, entered);
            setNode(row, N_CURSOR, 0);
            setNode(pathSize, N_PATH, row);
            pathSize++;
            setNode(pileSize, N_PILE, row);
            pileSize++;
            boolean loops = false;
            for (int i = node(row, N_MEMBERS); i < node(row + 1, N_MEMBERS); i++) {
                int s = members[i];
                if (has(among, s)) {
                    unseen[s >> 6] &= ~(1L << s);
                    piled[s >> 6] |= 1L << s;
                    loops |= has(relation.bits, s);
                }
            }
            setNode(row, N_LEADS, (rowMeets(goal) ? 1 : 0) | (loops ? 2 : 0));
            setNode(row, N_LOW, lowest());
        }

        /** The first entered of the rows that are open and to which the row leads, or the row itself. */
        private int lowest() {
            int bottom = node(node(0, N_PILE), N_INDEX);
            int lowest = entered;
            for (int w = relation.bitsFrom; w < relation.bitsTo && lowest > bottom; w++) {
                long left = relation.bits[w] & piled[w];
                for (int b = left == 0 ? 0 : Long.bitCount(left); b > 0 && lowest > bottom; b--) {
                    int t = w * 64 + Long.numberOfTrailingZeros(left);
                    left &= left - 1;
                    lowest = Math.min(lowest, node(relation.rowOf[t], N_INDEX));
                }
            }
            return lowest;
        }

        /** On to what is unseen in the row; it is come back to only if more than that is left. */
        private void descend(int row) {
            int t = nextUnseen(node(row, N_CURSOR));
            if (t < 0) {
                setNode(row, N_CURSOR, space.total);
                job = CLIMBING;
                return;
            }
            int later = nextUnseen(t + 1);
            setNode(row, N_CURSOR, later < 0 ? space.total : later);
            job = ENTERING;
            wanted = relation.rowOf[t];
        }

        private int nextUnseen(int from) {
            for (int w = Math.max(from >> 6, relation.bitsFrom); w < relation.bitsTo; w++) {
                long left = relation.bits[w] & unseen[w] & (w > from >> 6 ? -1L : -1L << from);
                if (left != 0) {
                    return w * 64 + Long.numberOfTrailingZeros(left);
                }
            }
            return -1;
        }

        /** Leaves the rows at the end of the path behind which all is seen. */
        private void climb() {
            for (int i = relation.rowCount(); i >= 0 && pathSize > 0; i--) {
                int row = node(pathSize - 1, N_PATH);
                if (node(row, N_CURSOR) < space.total && !isEmptied(unseen)) {
                    job = RETURNING;
                    wanted = row;
                    return;
                }
                if (node(row, N_LOW) == node(row, N_INDEX)) {
                    if (isOpenRing(row) && isFair(tail)) {
                        job = CIRCLING;
                        cursor = 0;
                        head = startOfRing(row);
                        tail = 0;
                        wanted = row;
                        return;
                    }
                    settle(row);
                }
                leave(row);
            }
            enterNext();
        }

        private void leave(int row) {
            pathSize--;
            if (pathSize > 0) {
                int above = node(pathSize - 1, N_PATH);
                setNode(above, N_LOW, Math.min(node(above, N_LOW), node(row, N_LOW)));
                setNode(above, N_LEADS, node(above, N_LEADS) | node(row, N_LEADS) & 1);
            }
        }

        private int startOfRing(int row) {
            int from = pileSize - 1;
            while (from > 0 && node(from, N_PILE) != row) {
                from--;
            }
            return from;
        }

        /**
         * Whether a row ends a ring that has to be gone round to know whether each FAIRNESS is in it, for
         * a STATE is in it only if one of its rows leads there. All that may be in it is around then,
         * and in the queue.
         */
        private boolean isOpenRing(int row) {
            int leads = node(row, N_LEADS);
            boolean isRing = node(pileSize - 1, N_PILE) != row || (leads & 2) != 0;
            if ((leads & 1) != 0 || !endless || !isRing) {
                return false;
            }
            if (space.fairSets == 0) {
                setNode(row, N_LEADS, leads | 1);
                return false;
            }
            Arrays.fill(around, 0, space.words, 0L);
            tail = 0;
            for (int k = startOfRing(row); k < pileSize; k++) {
                int member = node(k, N_PILE);
                for (int i = node(member, N_MEMBERS); i < node(member + 1, N_MEMBERS); i++) {
                    if (has(among, members[i])) {
                        around[members[i] >> 6] |= 1L << members[i];
                        queue[tail] = members[i];
                        tail++;
                    }
                }
            }
            return true;
        }

        /** Whether each FAIRNESS is true somewhere around; if few STATES are queued they are asked one by one. */
        private boolean isFair(int many) {
            for (int f = 0; f < space.fairSets; f++) {
                boolean fine = many > FEW && space.store.meets(f, around);
                for (int i = 0; i < many && many <= FEW && !fine; i++) {
                    fine = space.store.contains(f, queue[i]);
                }
                if (!fine) {
                    return false;
                }
            }
            return true;
        }

        /** Takes what the row leads to out of what is around and queues it; behind the last row it is looked at. */
        private void circle() {
            for (int w = relation.bitsFrom; w < relation.bitsTo; w++) {
                long left = relation.bits[w] & around[w];
                around[w] &= ~left;
                for (int b = left == 0 ? 0 : Long.bitCount(left); b > 0; b--) {
                    queue[tail] = w * 64 + Long.numberOfTrailingZeros(left);
                    tail++;
                    left &= left - 1;
                }
            }
            head++;
            if (head < pileSize && !isEmptied(around)) {
                wanted = node(head, N_PILE);
                return;
            }
            cursor = 0;
            Arrays.fill(around, 0, space.words, 0L);
            for (int i = 0; i < tail; i++) {
                around[queue[i] >> 6] |= 1L << queue[i];
            }
            int row = node(pathSize - 1, N_PATH);
            if (isFair(tail)) {
                setNode(row, N_LEADS, node(row, N_LEADS) | 1);
            }
            settle(row);
            leave(row);
            job = CLIMBING;
        }

        /** The pile from a row on is one ring, or one row without a way back. */
        private void settle(int row) {
            int from = startOfRing(row);
            boolean fine = (node(row, N_LEADS) & 1) != 0;
            for (int k = from; k < pileSize; k++) {
                int member = node(k, N_PILE);
                for (int i = node(member, N_MEMBERS); i < node(member + 1, N_MEMBERS); i++) {
                    int s = members[i];
                    if (has(among, s)) {
                        piled[s >> 6] &= ~(1L << s);
                        goal[s >> 6] |= fine ? 1L << s : 0L;
                    }
                }
            }
            pileSize = from;
        }
    }

    /**
     * Answers what is asked about SPECS and STATES. What takes visits to rows is done in turns: it
     * sets the graph to work, and goes on when that has ended.
     */
    static final class Prover {
        private static final int KEPT = 64;
        private static final int IDLE = 0;
        private static final int EXPLORING = 1;
        private static final int FAIRING = 2;
        private static final int SEEKING = 3;
        private static final int LEADING = 4;
        private static final int RINGING = 5;
        private static final int WATCHING = 6;
        // How far a SPEC's operator has come that takes visits to rows.
        private static final int NOT_BEGUN = 0;
        private static final int FIRST_HALF = 1;
        private static final int LAST_HALF = 2;

        private final Space space;
        private final Graph graph;
        private final Rows items = new Rows(2, 32);
        private final long[][] sets = new long[2 * HEIGHT_LIMIT + 8][];
        private int setCount;
        private final long[] spare = new long[WORD_LIMIT];
        private final long[][] kept = new long[KEPT][];
        private final int[] keptSpec = new int[KEPT];
        private final int[] trail = new int[SHOWN_LIMIT + 1];
        private final int[] shown = new int[SHOWN_LIMIT];
        private int trailCount;
        private int shownCount;
        private int loop = -1;
        private int strayPaths;
        private int task;
        private int asked;
        private int at;
        private int stop;
        private int where;
        private int into;
        private int stage;
        private int begun;
        private long[] truth;

        Prover(Space in, Graph over) {
            space = in;
            graph = over;
        }

        void begin() {
            shownCount = 0;
            loop = -1;
            task = IDLE;
            truth = null;
            Arrays.fill(keptSpec, -1);
        }

        int tally(int what, int spec) {
            long[] set = what == 0 ? space.every : what == 1 ? space.initial : what == 5 ? kept[spec % KEPT] : graph.reached;
            int many = 0;
            for (int s = 0; s < space.total; s++) {
                if (has(set, s) && (what != 3 || has(graph.fairStates, s)) && (what != 4 || followers(s) == 0)) {
                    many++;
                }
            }
            return many;
        }

        int followers(int state) {
            return graph.relation.sizeOfRow(graph.relation.rowOf[state]);
        }

        int initialState(int n) {
            return nth(space.initial, n);
        }

        /** The n-th of the STATES in the row that is laid out, or -1. */
        int follower(int n) {
            return nth(graph.relation.bits, n);
        }

        private int nth(long[] set, int n) {
            int left = n;
            for (int s = 0; s < space.total; s++) {
                if (has(set, s)) {
                    if (left == 0) {
                        return s;
                    }
                    left--;
                }
            }
            return -1;
        }

        /** What value tells: a SYMBOL by its place, a number by itself. */
        int worthOf(int variable, int state) {
            Model model = space.model;
            int place = model.variables.get(variable, W_PLACE);
            int digit = place < 0 ? 0 : space.digit(state, place);
            int varRow = model.variables.get(variable, W_VAR);
            return model.sortOf(varRow) == SORT_SYMBOL ? digit : model.worth(varRow, digit);
        }

        boolean isTrueIn(int spec, int state) {
            return has(kept[spec % KEPT], state);
        }

        boolean holdsAtStart(int spec) {
            long[] truth = kept[spec % KEPT];
            for (int w = 0; w < space.words; w++) {
                if ((space.initial[w] & ~truth[w]) != 0) {
                    return false;
                }
            }
            return true;
        }

        /** Sets out to learn what can be reached and what is FAIR. */
        void explore() {
            task = EXPLORING;
            graph.explore();
        }

        /** Sets out to find the STATES that have a SPEC, if they are not known. */
        void ask(int spec) {
            Model model = space.model;
            if (keptSpec[spec % KEPT] != spec) {
                seek(model.specs.get(spec, 0), model.specs.get(spec, 1), model.specs.get(spec, 2), 0);
                asked = spec;
            }
        }

        /** Sets out to find the STATES with an E and to leave them in the set of a number. */
        private void seek(int from, int to, int in, int number) {
            items.clear();
            setCount = number;
            at = from;
            stop = to;
            where = in;
            into = number;
            stage = NOT_BEGUN;
            asked = -1;
            task = SEEKING;
        }

        boolean isSeeking() {
            return task == SEEKING;
        }

        /** Goes on, if it is not seeking, till the graph has to be waited for; false if nothing is left to do. */
        boolean advance() {
            switch (task) {
                case EXPLORING:
                    task = FAIRING;
                    graph.findFair();
                    break;
                case LEADING:
                    trailCount += graph.writeTrail(trail[trailCount - 1], trail, trailCount);
                    task = IDLE;
                    break;
                case RINGING:
                    ringOn();
                    break;
                case WATCHING:
                    watchOn();
                    break;
                default:
                    task = IDLE;
                    break;
            }
            return task != IDLE;
        }

        /**
         * Goes on seeking. Parts without EX .. are reckoned whole, when an operator asks for their set;
         * the end asks like an operator of one part.
         */
        void seekOn() {
            Model model = space.model;
            for (; at <= stop; at++) {
                int op = at < stop ? model.code.get(at, 0) : OP_NOT;
                int parts = partsOf(op, model.code.get(at, 1));
                int base = Math.max(0, items.size - parts);
                int start = parts == 0 ? at : items.get(base, 0);
                int set = -1;
                if (at == stop || isTimed(op) || hasSet(base)) {
                    if (findPart(base)) {
                        return;
                    }
                    set = Math.min(items.get(base, 1), items.get(items.size - 1, 1));
                    if (combine(op, base, set)) {
                        return;
                    }
                }
                items.cut(base);
                items.put(start, set, 0, 0);
            }
            space.keepCommon(sets[into], space.every);
            if (asked >= 0) {
                keep(asked);
            }
            task = IDLE;
        }

        private boolean hasSet(int base) {
            for (int k = base; k < items.size; k++) {
                if (items.get(k, 1) >= 0) {
                    return true;
                }
            }
            return false;
        }

        /** Loads the first part that has no set yet and gives it one, for its truth to be laid there; false if all have. */
        private boolean findPart(int base) {
            for (int k = base; k < items.size; k++) {
                if (items.get(k, 1) < 0) {
                    space.machine.load(items.get(k, 0), k + 1 < items.size ? items.get(k + 1, 0) : at, where);
                    items.set(k, 1, newSet());
                    truth = sets[items.get(k, 1)];
                    return true;
                }
            }
            return false;
        }

        private int newSet() {
            int set = Math.min(setCount, sets.length - 1);
            if (sets[set] == null) {
                sets[set] = new long[WORD_LIMIT];
            }
            setCount = set + 1;
            return set;
        }

        /** Makes one set of those of the parts; true if the graph has to be waited for. */
        private boolean combine(int op, int base, int set) {
            long[] left = sets[items.get(base, 1)];
            long[] right = sets[items.get(items.size - 1, 1)];
            setCount = set + 1;
            if (at == stop) {
                return false;
            }
            if (!isTimed(op)) {
                join(op, left, right, sets[set]);
                return false;
            }
            stage++;
            if (stage == FIRST_HALF) {
                prepare(op, left, right, sets[set]);
                graph.reckon(plainOf(op), spare, sets[set], sets[set]);
                return true;
            }
            if (stage == LAST_HALF && op == OP_AU) {
                graph.reckon(OP_EG, spare, spare, spare);
                return true;
            }
            stage = NOT_BEGUN;
            finish(op, sets[set]);
            return false;
        }

        /** Which of EX, E [ ] and EG an operator is reckoned by. */
        private static int plainOf(int op) {
            if (op == OP_EX || op == OP_AX) {
                return OP_EX;
            }
            return op == OP_EG || op == OP_AF ? OP_EG : OP_EU;
        }

        /** Lays out in spare what the PATH goes through, and in out what it goes to. */
        private void prepare(int op, long[] a, long[] b, long[] out) {
            boolean not = isShownFalse(op);
            for (int w = 0; w < space.words; w++) {
                long every = space.every[w];
                long first = (not ? ~a[w] : a[w]) & every;
                long second = b[w] & every;
                if (op == OP_EU) {
                    spare[w] = first;
                    out[w] = second;
                } else if (op == OP_AU) {
                    spare[w] = every & ~second;
                    out[w] = every & ~second & ~first;
                } else {
                    spare[w] = op == OP_EG || op == OP_AF ? first : every;
                    out[w] = first;
                }
            }
        }

        private void finish(int op, long[] out) {
            for (int w = 0; w < space.words; w++) {
                if (op == OP_AU) {
                    out[w] = space.every[w] & ~(out[w] | spare[w]);
                } else if (isShownFalse(op)) {
                    out[w] = space.every[w] & ~out[w];
                }
            }
        }

        private void join(int op, long[] a, long[] b, long[] out) {
            for (int w = 0; w < space.words; w++) {
                switch (op) {
                    case OP_IFF:
                        out[w] = ~(a[w] ^ b[w]);
                        break;
                    case OP_IMP:
                        out[w] = ~a[w] | b[w];
                        break;
                    case OP_OR:
                        out[w] = a[w] | b[w];
                        break;
                    case OP_XOR:
                        out[w] = a[w] ^ b[w];
                        break;
                    case OP_AND:
                        out[w] = a[w] & b[w];
                        break;
                    default:
                        out[w] = ~a[w];
                        break;
                }
            }
        }

        /** Keeps what was sought last as the STATES that have a SPEC. */
        private void keep(int spec) {
            int k = spec % KEPT;
            if (kept[k] == null || kept[k].length < space.words) {
                kept[k] = new long[space.total <= SMALL_SPACE ? SMALL_SPACE >> 6 : WORD_LIMIT];
            }
            System.arraycopy(sets[0], 0, kept[k], 0, space.words);
            keptSpec[k] = spec;
        }

        private int outerOf(int spec) {
            Model model = space.model;
            return model.code.get(model.specs.get(spec, 1) - 1, 0);
        }

        private static boolean isShownFalse(int op) {
            return op == OP_AX || op == OP_AF || op == OP_AG;
        }

        /** The first INITIAL STATE from which a SPEC can be shown, or -1. */
        int startToShow(int spec) {
            int op = outerOf(spec);
            if (!isTimed(op) || op == OP_AU) {
                return -1;
            }
            for (int s = 0; s < space.total; s++) {
                if (has(space.initial, s) && has(kept[spec % KEPT], s) != isShownFalse(op)) {
                    return s;
                }
            }
            return -1;
        }

        /** Sets out to find the STATES with what stands last in the operator of a SPEC. */
        void seekGoal(int spec) {
            Model model = space.model;
            int last = model.specs.get(spec, 1) - 1;
            int from = outerOf(spec) == OP_EU ? model.startOf(last - 1) : model.specs.get(spec, 0);
            seek(from, last, model.specs.get(spec, 2), 0);
        }

        /** Sets out to find the STATES that a PATH to the goal goes through, if the SPEC names them. */
        void seekWay(int spec) {
            Model model = space.model;
            int last = model.specs.get(spec, 1) - 1;
            if (outerOf(spec) == OP_EU) {
                seek(model.specs.get(spec, 0), model.startOf(last - 1), model.specs.get(spec, 2), 1);
            } else {
                setCount = 1;
                newSet();
            }
        }

        /** Lays out the set to stay in or go through, and the set to go to. */
        private void aim(int spec) {
            int op = outerOf(spec);
            long[] goal = sets[0];
            long[] through = sets[1];
            long[] truths = kept[spec % KEPT];
            for (int w = 0; w < space.words; w++) {
                long every = space.every[w];
                goal[w] = (isShownFalse(op) ? ~goal[w] : goal[w]) & graph.fairStates[w];
                if (op == OP_EG || op == OP_AF) {
                    through[w] = op == OP_EG ? truths[w] : every & ~truths[w];
                } else if (op == OP_EX || op == OP_AX) {
                    through[w] = 0;
                } else if (op != OP_EU) {
                    through[w] = every;
                }
            }
        }

        /** Sets out to find the PATH that shows a SPEC from a STATE on. */
        void seekPath(int spec, int start) {
            int op = outerOf(spec);
            boolean atOnce = op == OP_EU || op == OP_EF || op == OP_AG;
            aim(spec);
            trail[0] = start;
            trailCount = 1;
            begun = -1;
            if (op == OP_EG || op == OP_AF) {
                task = RINGING;
                begun = 0;
                at = 0;
                startLeg();
            } else if (!atOnce || !has(sets[0], start)) {
                task = LEADING;
                graph.lead(start, sets[1], sets[0]);
            }
        }

        /** The next leg of the way leads to a FAIRNESS, or behind the last of them back to where it began. */
        private void startLeg() {
            long[] goal = sets[0];
            long[] within = sets[1];
            if (at >= legs()) {
                Arrays.fill(goal, 0, space.words, 0L);
                goal[trail[begun] >> 6] |= 1L << trail[begun];
            } else if (space.model.fairs.size == 0) {
                System.arraycopy(within, 0, goal, 0, space.words);
            } else {
                Arrays.fill(goal, 0, space.words, 0L);
                space.store.unpack(space.model.fairs.get(at, FAIR_SET), goal);
                space.keepCommon(goal, within);
            }
            graph.lead(trail[trailCount - 1], within, goal);
        }

        private int legs() {
            return Math.max(1, space.model.fairs.size);
        }

        /** If no way leads back, what comes behind all FAIRNESS begins anew at the last STATE. */
        private void ringOn() {
            int steps = graph.writeTrail(trail[trailCount - 1], trail, trailCount);
            boolean isBack = at >= legs();
            if (isBack && steps == 0) {
                begun = trailCount - 1;
                at = 0;
            } else {
                trailCount += isBack ? steps - 1 : steps;
                at++;
            }
            if (isBack && steps > 0 || !isBack && steps == 0 || trailCount > SHOWN_LIMIT) {
                task = IDLE;
            } else {
                startLeg();
            }
        }

        /** Shows the PATH that was found, and sets out to watch it; above the limit nothing changes. */
        int display() {
            if (trailCount <= SHOWN_LIMIT) {
                System.arraycopy(trail, 0, shown, 0, trailCount);
                shownCount = trailCount;
                loop = begun;
                task = WATCHING;
                at = 0;
                graph.fetch(shown[0]);
            }
            return trailCount;
        }

        /** A path that is shown must GO; what does not is counted. */
        private void watchOn() {
            int next = at + 1 < shownCount ? shown[at + 1] : loop >= 0 ? shown[loop] : -1;
            boolean strays = next >= 0 && !has(graph.relation.bits, next);
            strayPaths += strays ? 1 : 0;
            at++;
            if (strays || at >= shownCount) {
                task = IDLE;
            } else {
                graph.fetch(shown[at]);
            }
        }
    }
}
