import java.util.ArrayList;
import java.util.BitSet;
import java.util.List;
import java.util.Random;

/** Systems by lot, always the same ones, of which all answers are compared with those of a plain reckoning. */
public final class PlainTest extends Due {
    private static final String[] SYMBOLS = {"red", "green", "blue", "grey"};
    private static final int[] FEW = {1, 2, 2, 3, 4, 5};
    private static final int[] MORE = {2, 7, 30, 64, 100, 130};
    private final Random lot;
    private final Plain plain = new Plain();
    private final boolean large;
    private final List<Character> sorts = new ArrayList<>();
    private final List<Character> defined = new ArrayList<>();

    private PlainTest(int seed, boolean isLarge) {
        lot = new Random(seed);
        large = isLarge;
    }

    private int any(int n) {
        return lot.nextInt(n);
    }

    private static Plain.Tree leaf(int number, String text) {
        return new Plain.Tree("leaf", number, text);
    }

    private void makeVariables() {
        int many = large ? 1 + any(2) : 1 + any(4);
        int room = large ? 1500 : 200;
        for (int v = 0; v < many; v++) {
            Plain.Variable made = new Plain.Variable();
            made.name = "v" + v;
            int kind = any(4);
            int size = large && kind > 0 ? MORE[any(MORE.length)] : FEW[any(FEW.length)];
            size = Math.max(1, Math.min(size, room));
            made.sort = kind == 0 ? Plain.TRUTH : kind == 1 && size <= 4 ? Plain.SYMBOL : Plain.NUMBER;
            size = made.sort == Plain.TRUTH ? 2 : size;
            room /= size;
            made.values = new int[size];
            int low = any(5) - 3;
            int first = any(size);
            StringBuilder listed = new StringBuilder("{");
            for (int i = 0; i < size; i++) {
                int place = (first + i) % size;
                made.values[i] = made.sort == Plain.TRUTH ? i : made.sort == Plain.SYMBOL ? place : kind == 3 ? low + 3 * place : low + i;
                listed.append(i > 0 ? ", " : "").append(made.sort == Plain.SYMBOL ? SYMBOLS[place] : "" + made.values[i]);
            }
            made.type = made.sort == Plain.TRUTH ? "boolean" : made.sort == Plain.SYMBOL || kind == 3 ? listed + "}" : low + " .. " + (low + size - 1);
            plain.variables.add(made);
            sorts.add(made.sort);
        }
    }

    private char anySort() {
        return "TNNS".charAt(any(4));
    }

    private Plain.Tree leafOf(char sort, boolean next) {
        List<Plain.Tree> all = new ArrayList<>();
        for (int v = 0; v < sorts.size(); v++) {
            if (sorts.get(v) == sort) {
                all.add(new Plain.Tree("variable", v, "v" + v));
                if (next) {
                    all.add(new Plain.Tree("next", v, "next(v" + v + ")"));
                    all.add(new Plain.Tree("next", v, "next(v" + v + ")"));
                }
            }
        }
        for (int d = 0; d < defined.size(); d++) {
            if (defined.get(d) == sort) {
                all.add(new Plain.Tree("define", d, "d" + d));
            }
        }
        if (!all.isEmpty() && any(6) > 0) {
            return all.get(any(all.size()));
        }
        int number = any(large ? 60 : 6);
        int symbol = any(SYMBOLS.length);
        return sort == Plain.NUMBER ? leaf(number, "" + number) : sort == Plain.SYMBOL ? leaf(symbol, SYMBOLS[symbol]) : leaf(number % 2, number % 2 == 1 ? "TRUE" : "FALSE");
    }

    private Plain.Tree join(String op, Plain.Tree a, Plain.Tree b) {
        return new Plain.Tree(op, 0, "(" + a.text + " " + op + " " + b.text + ")", a, b);
    }

    private Plain.Tree make(char sort, int depth, boolean next) {
        int kind = any(10);
        if (depth == 0 || kind == 0) {
            return leafOf(sort, next);
        }
        if (kind == 1) {
            return makeCase(sort, depth, next);
        }
        if (sort == Plain.SYMBOL) {
            return leafOf(sort, next);
        }
        if (sort == Plain.NUMBER) {
            Plain.Tree a = make(sort, depth - 1, next);
            if (kind == 2) {
                return new Plain.Tree("-", 0, "(- " + a.text + ")", a);
            }
            return join(new String[] {"+", "-", "*", "/", "mod", "+", "-"}[any(7)], a, make(sort, depth - 1, next));
        }
        if (kind == 2) {
            Plain.Tree a = make(sort, depth - 1, next);
            return new Plain.Tree("!", 0, "(!" + a.text + ")", a);
        }
        if (kind < 6) {
            return join(new String[] {"&", "|", "->", "<->", "xor"}[any(5)], make(sort, depth - 1, next), make(sort, depth - 1, next));
        }
        return compare(depth, next);
    }

    private Plain.Tree makeCase(char sort, int depth, boolean next) {
        Plain.Tree[] parts = new Plain.Tree[2 + 2 * any(2)];
        StringBuilder text = new StringBuilder("(case");
        for (int k = 0; k < parts.length; k++) {
            parts[k] = make(k % 2 == 0 ? Plain.TRUTH : sort, depth - 1, next);
            text.append(' ').append(parts[k].text).append(k % 2 == 0 ? " :" : ";");
        }
        return new Plain.Tree("case", 0, text + " esac)", parts);
    }

    private Plain.Tree compare(int depth, boolean next) {
        char sort = anySort();
        Plain.Tree a = make(sort, depth - 1, next);
        if (any(4) == 0) {
            Plain.Tree[] parts = new Plain.Tree[2 + any(3)];
            StringBuilder text = new StringBuilder("(" + a.text + " in {");
            parts[0] = a;
            for (int k = 1; k < parts.length; k++) {
                parts[k] = make(sort, depth - 1, next);
                text.append(k > 1 ? ", " : "").append(parts[k].text);
            }
            return new Plain.Tree("in", 0, text + "})", parts);
        }
        String[] ops = {"=", "!=", "<", "<=", ">", ">="};
        return join(ops[any(sort == Plain.NUMBER ? 6 : 2)], a, make(sort, depth - 1, next));
    }

    private Plain.Choice choice(int v, int depth) {
        Plain.Choice made = new Plain.Choice();
        StringBuilder text = new StringBuilder();
        if (depth > 0 && any(3) == 0) {
            text.append("case");
            for (int k = 1 + any(2); k >= 0; k--) {
                Plain.Tree truth = k == 0 && any(4) > 0 ? leaf(1, "TRUE") : make(Plain.TRUTH, 2, false);
                made.truths.add(truth);
                made.choices.add(choice(v, depth - 1));
                text.append(' ').append(truth.text).append(" : ").append(made.choices.get(made.choices.size() - 1).text).append(';');
            }
            made.text = text + " esac";
            return made;
        }
        int many = 1 + any(4);
        for (int k = 0; k < many; k++) {
            made.values.add(k == 1 ? new Plain.Tree("variable", v, "v" + v) : make(sorts.get(v), 2, false));
            text.append(k > 0 ? ", " : "").append(made.values.get(k).text);
        }
        made.text = many == 1 && any(2) == 0 ? text.toString() : "{" + text + "}";
        return made;
    }

    /** TRANS of the forms that are looked at in ways of their own, and others. */
    private Plain.Tree step() {
        int v = any(sorts.size());
        char sort = sorts.get(v);
        Plain.Tree next = new Plain.Tree("next", v, "next(v" + v + ")");
        Plain.Tree same = new Plain.Tree("variable", v, "v" + v);
        Plain.Tree e = make(sort, 2, any(5) == 0);
        switch (any(11)) {
            case 0: return bare("=", next, e);
            case 1: return bare("=", e, next);
            case 2: return new Plain.Tree("in", 0, "next(v" + v + ") in {" + e.text + ", v" + v + "}", next, e, same);
            case 3: return bare("&", bare("|", bare("=", next, same), bare("=", next, e)), make(Plain.TRUTH, 3, true));
            case 4: return bare("&", bare("&", step(), step()), make(Plain.TRUTH, 1, false));
            case 5: return bare("=", make(sort, 2, true), make(sort, 1, true));
            case 6: return bare("|", make(Plain.TRUTH, 3, true), make(Plain.TRUTH, 2, true));
            case 7: return bare("->", make(Plain.TRUTH, 2, false), make(Plain.TRUTH, 2, true));
            case 8:
            case 9: return branches();
            default: return make(Plain.TRUTH, 3, true);
        }
    }

    /** An outer | of parts that say what is true before and what some VARIABLES become. */
    private Plain.Tree branches() {
        Plain.Tree all = null;
        for (int k = 2 + any(3); k > 0; k--) {
            Plain.Tree part = any(3) == 0 ? make(Plain.TRUTH, 1, false) : becomes();
            for (int i = any(3); i > 0; i--) {
                part = bare("&", part, any(3) == 0 ? make(Plain.TRUTH, 1, false) : becomes());
            }
            all = all == null ? part : bare("|", all, part);
        }
        return all;
    }

    private Plain.Tree becomes() {
        int v = any(sorts.size());
        Plain.Variable variable = plain.variables.get(v);
        int d = any(variable.values.length);
        int number = variable.values[d];
        Plain.Tree one = variable.sort == Plain.NUMBER && number >= 0 ? leaf(number, "" + number) : make(variable.sort, 1, false);
        return any(6) == 0 ? make(Plain.TRUTH, 2, true) : bare("=", new Plain.Tree("next", v, "next(v" + v + ")"), one);
    }

    /** Written with as few ( ) as an & at the outside leaves. */
    private static Plain.Tree bare(String op, Plain.Tree a, Plain.Tree b) {
        boolean and = op.equals("&");
        return new Plain.Tree(op, 0, and ? inner(a) + " & " + inner(b) : a.text + " " + op + " " + b.text, a, b);
    }

    private static String inner(Plain.Tree e) {
        return e.op.equals("|") || e.op.equals("->") || e.op.equals("xor") || e.op.equals("<->") ? "(" + e.text + ")" : e.text;
    }

    private Plain.Tree timed(int depth) {
        if (depth == 0) {
            return make(Plain.TRUTH, 2, false);
        }
        String op = new String[] {"EX", "EF", "EG", "AX", "AF", "AG", "E", "A", "!", "&", "|", "->", "<->", "xor"}[any(14)];
        Plain.Tree a = timed(depth - 1);
        if (op.length() == 2 && Character.isLetter(op.charAt(0)) || op.equals("!")) {
            return new Plain.Tree(op, 0, op + " (" + a.text + ")", a);
        }
        Plain.Tree b = timed(depth - 1);
        if (op.equals("E") || op.equals("A")) {
            return new Plain.Tree(op, 0, op + " [ " + a.text + " U " + b.text + " ]", a, b);
        }
        return new Plain.Tree(op, 0, "(" + a.text + ") " + op + " (" + b.text + ")", a, b);
    }

    private void makeModel() {
        makeVariables();
        for (int d = any(3); d > 0; d--) {
            char sort = anySort();
            plain.defines.add(make(sort, 2, false));
            defined.add(sort);
        }
        for (int v = 0; v < sorts.size(); v++) {
            Plain.Variable variable = plain.variables.get(v);
            if (any(15) == 0) {
                variable.alone = choice(v, 1);
            } else {
                variable.init = any(2) == 0 ? choice(v, 1) : null;
                variable.next = any(5) < 3 ? choice(v, 2) : null;
            }
        }
        if (any(4) == 0) {
            plain.inits.add(make(Plain.TRUTH, 2, false));
        }
        if (any(6) == 0) {
            plain.invars.add(join("|", make(Plain.TRUTH, 2, false), make(Plain.TRUTH, 2, false)));
        }
        for (int t = any(3); t > 0; t--) {
            plain.trans.add(step());
        }
        for (int f = any(4); f > 0; f--) {
            plain.fairs.add(make(Plain.TRUTH, 2, false));
        }
        for (int s = 0; s < 5; s++) {
            plain.specs.add(timed(1 + any(2)));
        }
    }

    /** So many steps that each look at all VARIABLES, that there is no room for a table for each. */
    private void crowd() {
        List<Plain.Tree> all = new ArrayList<>();
        for (int v = 0; v < sorts.size(); v++) {
            if (sorts.get(v) == Plain.NUMBER) {
                all.add(new Plain.Tree("variable", v, "v" + v));
            }
        }
        for (int t = 0; t < 40 && !all.isEmpty(); t++) {
            Plain.Tree sum = leaf(t, "" + t);
            for (Plain.Tree one : all) {
                sum = join("+", sum, one);
            }
            Plain.Tree same = all.get(any(all.size()));
            Plain.Tree next = new Plain.Tree("next", same.number, "next(" + same.text + ")");
            Plain.Tree by = leaf(2 + t % 5, "" + (2 + t % 5));
            Plain.Tree most = join("-", leaf(60, "60"), join("mod", sum, by));
            plain.trans.add(t % 8 == 7 ? bare("!=", next, join("+", sum, by))
                    : new Plain.Tree("in", 0, next.text + " in {" + same.text + ", " + sum.text + ", " + most.text + "}", next, same, sum, most));
        }
    }

    private void ask(PathProver x) {
        String text = plain.text() + "\nMODULE other VAR all : {red, green, blue, grey};";
        // SYMBOLS are numbered here by SYMBOLS, so that red must be the first VALUE of the text.
        Tapes.feed(x, "MODULE first VAR all : {red};\n" + text);
        sentence = text;
        due("read", plain.specs.size(), x::read);
        plain.layOut();
        BitSet fair = (BitSet) plain.fair.clone();
        fair.and(plain.reached);
        int stuck = 0;
        for (int s = plain.reached.nextSetBit(0); s >= 0; s = plain.reached.nextSetBit(s + 1)) {
            stuck += plain.goes[s].isEmpty() ? 1 : 0;
        }
        int[] want = {plain.every.cardinality(), plain.initial.cardinality(), plain.reached.cardinality(), fair.cardinality(), stuck};
        for (int what = 0; what < want.length; what++) {
            int w = what;
            due("states(" + what + ", 0)", want[what], () -> x.states(w, 0));
        }
        for (int i = 0; i < plain.specs.size(); i++) {
            int spec = i;
            BitSet holding = plain.holding(plain.specs.get(i));
            due("states(5, " + i + ")", holding.cardinality(), () -> x.states(5, spec));
            BitSet lacking = (BitSet) plain.initial.clone();
            lacking.andNot(holding);
            due("check(" + i + ")", lacking.isEmpty(), () -> x.check(spec));
            askPath(x, i);
        }
        walk(x);
        due("faults(2)", 0, () -> x.faults(2));
    }

    private void askPath(PathProver x, int i) {
        List<Integer> path = plain.shown(plain.specs.get(i));
        if (path == null) {
            due("show(" + i + ")", UOE, () -> x.show(i));
            return;
        }
        int many = path.size() - 1;
        due("show(" + i + ")", many, () -> x.show(i));
        due("count(6)", path.get(many), () -> x.count(6));
        for (int n = 0; n < many; n++) {
            int k = n;
            due("pick(" + n + ")", plain.goes[path.get(n)].cardinality(), () -> x.pick(k));
            current(x, path.get(n));
        }
    }

    private void current(PathProver x, int state) {
        for (int v = 0; v < sorts.size(); v++) {
            int i = v;
            due("value(" + v + ")", plain.told(state, v), () -> x.value(i));
        }
    }

    private void walk(PathProver x) {
        int n = 0;
        int state = -1;
        for (int s = plain.initial.nextSetBit(0); s >= 0 && n < 5; s = plain.initial.nextSetBit(s + 1)) {
            int k = n;
            state = s;
            due("first(" + n + ")", plain.goes[s].cardinality(), () -> x.first(k));
            current(x, s);
            n++;
        }
        for (int steps = 0; steps < 6 && state >= 0 && !plain.goes[state].isEmpty(); steps++) {
            int k = any(plain.goes[state].cardinality());
            state = plain.goes[state].stream().skip(k).findFirst().getAsInt();
            int to = state;
            due("step(" + k + ")", plain.goes[to].cardinality(), () -> x.step(k));
            current(x, to);
        }
    }

    public static void main(String[] args) {
        int few = args.length > 0 ? Integer.parseInt(args[0]) : 3000;
        PathProver x = new PathProver();
        for (int seed = 0; seed < few; seed++) {
            x = seed % 5 == 0 ? new PathProver() : x;
            PathProver same = x;
            PlainTest one = new PlainTest(seed, false);
            one.makeModel();
            one.ask(same);
        }
        for (int seed = 0; seed < few / 15; seed++) {
            PlainTest one = new PlainTest(1_000_000 + seed, true);
            one.makeModel();
            one.ask(x);
        }
        for (int seed = 0; seed < few / 100; seed++) {
            PlainTest one = new PlainTest(2_000_000 + seed, true);
            one.makeModel();
            one.crowd();
            one.ask(x);
        }
        finish();
    }
}
