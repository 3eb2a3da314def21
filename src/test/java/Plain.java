import java.util.ArrayList;
import java.util.BitSet;
import java.util.List;

/**
 * A system of one MODULE, told as a text and reckoned in the plainest way: by trees of E, all pairs of
 * STATES, and sets that are made larger or smaller till they stay. It shares nothing with the class.
 */
final class Plain {
    static final char TRUTH = 'T';
    static final char NUMBER = 'N';
    static final char SYMBOL = 'S';

    /** An E: an operator with its parts, or a leaf with a number; what stands for it in a text. */
    static final class Tree {
        final String op;
        final Tree[] parts;
        final int number;
        final String text;

        Tree(String op, int number, String text, Tree... parts) {
            this.op = op;
            this.number = number;
            this.text = text;
            this.parts = parts;
        }
    }

    /** A CHOICE: values, or truths with a CHOICE for each. */
    static final class Choice {
        final List<Tree> values = new ArrayList<>();
        final List<Tree> truths = new ArrayList<>();
        final List<Choice> choices = new ArrayList<>();
        String text = "";
    }

    static final class Variable {
        String name;
        String type;
        char sort;
        int[] values;
        Choice alone;
        Choice init;
        Choice next;
    }

    final List<Variable> variables = new ArrayList<>();
    final List<Tree> defines = new ArrayList<>();
    final List<Tree> inits = new ArrayList<>();
    final List<Tree> invars = new ArrayList<>();
    final List<Tree> trans = new ArrayList<>();
    final List<Tree> fairs = new ArrayList<>();
    final List<Tree> specs = new ArrayList<>();
    private int total;
    private int[][] valuation;
    final BitSet every = new BitSet();
    final BitSet initial = new BitSet();
    final BitSet reached = new BitSet();
    BitSet[] goes;
    private final List<BitSet> fairSets = new ArrayList<>();
    BitSet fair;

    int reckon(Tree e, int[] now, int[] next) {
        int a = e.parts.length > 0 && !e.op.equals("case") ? reckon(e.parts[0], now, next) : 0;
        int b = e.parts.length > 1 && !e.op.equals("case") && !e.op.equals("in") ? reckon(e.parts[1], now, next) : 0;
        switch (e.op) {
            case "leaf": return e.number;
            case "variable": return now[e.number];
            case "next": return next[e.number];
            case "define": return reckon(defines.get(e.number), now, next);
            case "!": return 1 - a;
            case "&": return Math.min(a, b);
            case "|": return Math.max(a, b);
            case "->": return a == 1 && b == 0 ? 0 : 1;
            case "<->": case "=": return a == b ? 1 : 0;
            case "xor": case "!=": return a == b ? 0 : 1;
            case "<": return a < b ? 1 : 0;
            case "<=": return a > b ? 0 : 1;
            case ">": return a > b ? 1 : 0;
            case ">=": return a < b ? 0 : 1;
            case "+": return (short) (a + b);
            case "-": return (short) (e.parts.length == 1 ? -a : a - b);
            case "*": return (short) (a * b);
            case "/": return b == 0 ? 0 : (short) (a / b);
            case "mod": return b == 0 ? 0 : (short) (a - a / b * b);
            case "in":
                for (int k = 1; k < e.parts.length; k++) {
                    if (reckon(e.parts[k], now, next) == a) {
                        return 1;
                    }
                }
                return 0;
            default:
                for (int k = 0; k < e.parts.length; k += 2) {
                    if (reckon(e.parts[k], now, next) == 1) {
                        return reckon(e.parts[k + 1], now, next);
                    }
                }
                return 0;
        }
    }

    boolean isChosen(Choice choice, int value, int[] now) {
        for (Tree e : choice.values) {
            if (reckon(e, now, now) == value) {
                return true;
            }
        }
        for (int k = 0; k < choice.truths.size(); k++) {
            if (reckon(choice.truths.get(k), now, now) == 1) {
                return isChosen(choice.choices.get(k), value, now);
            }
        }
        return choice.values.isEmpty() && value == 0;
    }

    /** Finds the STATES and where they GO. */
    void layOut() {
        total = 1;
        for (Variable v : variables) {
            total *= v.values.length;
        }
        valuation = new int[total][variables.size()];
        for (int s = 0; s < total; s++) {
            int left = s;
            for (int v = variables.size() - 1; v >= 0; v--) {
                int[] values = variables.get(v).values;
                valuation[s][v] = values[left % values.length];
                left /= values.length;
            }
            every.set(s, isState(s));
            initial.set(s, every.get(s) && isInitial(s));
        }
        goes = new BitSet[total];
        for (int s = 0; s < total; s++) {
            goes[s] = new BitSet();
            for (int t = every.nextSetBit(0); t >= 0 && every.get(s); t = every.nextSetBit(t + 1)) {
                goes[s].set(t, leads(s, t));
            }
        }
        for (Tree e : fairs) {
            fairSets.add(where(e));
        }
        fair = kept(every);
        reached.or(initial);
        int before = -1;
        while (before != reached.cardinality()) {
            before = reached.cardinality();
            for (int s = 0; s < total; s++) {
                if (reached.get(s)) {
                    reached.or(goes[s]);
                }
            }
        }
    }

    private boolean isState(int s) {
        for (Tree e : invars) {
            if (reckon(e, valuation[s], valuation[s]) == 0) {
                return false;
            }
        }
        for (int v = 0; v < variables.size(); v++) {
            Choice alone = variables.get(v).alone;
            if (alone != null && !isChosen(alone, valuation[s][v], valuation[s])) {
                return false;
            }
        }
        return true;
    }

    private boolean isInitial(int s) {
        for (Tree e : inits) {
            if (reckon(e, valuation[s], valuation[s]) == 0) {
                return false;
            }
        }
        for (int v = 0; v < variables.size(); v++) {
            Choice init = variables.get(v).init;
            if (init != null && !isChosen(init, valuation[s][v], valuation[s])) {
                return false;
            }
        }
        return true;
    }

    private boolean leads(int s, int t) {
        for (int v = 0; v < variables.size(); v++) {
            Choice next = variables.get(v).next;
            if (next != null && !isChosen(next, valuation[t][v], valuation[s])) {
                return false;
            }
        }
        for (Tree e : trans) {
            if (reckon(e, valuation[s], valuation[t]) == 0) {
                return false;
            }
        }
        return true;
    }

    BitSet where(Tree e) {
        BitSet set = new BitSet();
        for (int s = every.nextSetBit(0); s >= 0; s = every.nextSetBit(s + 1)) {
            set.set(s, reckon(e, valuation[s], valuation[s]) == 1);
        }
        return set;
    }

    private BitSet before(BitSet set) {
        BitSet all = new BitSet();
        for (int s = every.nextSetBit(0); s >= 0; s = every.nextSetBit(s + 1)) {
            all.set(s, goes[s].intersects(set));
        }
        return all;
    }

    private BitSet leading(BitSet through, BitSet goal) {
        BitSet all = (BitSet) goal.clone();
        int before = -1;
        while (before != all.cardinality()) {
            before = all.cardinality();
            BitSet more = before(all);
            more.and(through);
            all.or(more);
        }
        return all;
    }

    /** The largest set in p from which each FAIRNESS can be come to again and again without leaving it. */
    private BitSet kept(BitSet p) {
        BitSet all = (BitSet) p.clone();
        int before = -1;
        while (before != all.cardinality()) {
            before = all.cardinality();
            for (int f = 0; f < Math.max(1, fairSets.size()); f++) {
                BitSet goal = (BitSet) all.clone();
                if (!fairSets.isEmpty()) {
                    goal.and(fairSets.get(f));
                }
                all.and(before(leading(all, goal)));
            }
        }
        return all;
    }

    private static BitSet and(BitSet a, BitSet b) {
        BitSet both = (BitSet) a.clone();
        both.and(b);
        return both;
    }

    private BitSet not(BitSet a) {
        BitSet others = (BitSet) every.clone();
        others.andNot(a);
        return others;
    }

    /** The STATES with a SPEC. */
    BitSet holding(Tree e) {
        switch (e.op) {
            case "EX": return before(and(holding(e.parts[0]), fair));
            case "EF": return leading(every, and(holding(e.parts[0]), fair));
            case "EG": return kept(holding(e.parts[0]));
            case "AX": return not(before(and(not(holding(e.parts[0])), fair)));
            case "AG": return not(leading(every, and(not(holding(e.parts[0])), fair)));
            case "AF": return not(kept(not(holding(e.parts[0]))));
            case "E": return leading(holding(e.parts[0]), and(holding(e.parts[1]), fair));
            case "A": {
                BitSet p = not(holding(e.parts[0]));
                BitSet q = not(holding(e.parts[1]));
                BitSet bad = leading(q, and(and(p, q), fair));
                bad.or(kept(q));
                return not(bad);
            }
            case "!": return not(holding(e.parts[0]));
            case "&": return and(holding(e.parts[0]), holding(e.parts[1]));
            case "|": return not(and(not(holding(e.parts[0])), not(holding(e.parts[1]))));
            case "->": return not(and(holding(e.parts[0]), not(holding(e.parts[1]))));
            case "xor": {
                BitSet one = holding(e.parts[0]);
                one.xor(holding(e.parts[1]));
                return one;
            }
            case "<->": {
                BitSet one = holding(e.parts[0]);
                one.xor(holding(e.parts[1]));
                return not(one);
            }
            default: return where(e);
        }
    }

    /** The LEAST PATH behind start, of one step or more; empty if there is none. */
    private List<Integer> least(int start, BitSet through, BitSet goal) {
        int[] far = new int[total];
        java.util.Arrays.fill(far, Integer.MAX_VALUE);
        BitSet near = (BitSet) goal.clone();
        for (int steps = 0; steps <= total; steps++) {
            for (int s = near.nextSetBit(0); s >= 0; s = near.nextSetBit(s + 1)) {
                far[s] = Math.min(far[s], steps);
            }
            near = and(before(near), through);
        }
        List<Integer> path = new ArrayList<>();
        int at = start;
        do {
            int best = -1;
            for (int t = goes[at].nextSetBit(0); t >= 0; t = goes[at].nextSetBit(t + 1)) {
                if (far[t] < Integer.MAX_VALUE && (best < 0 || far[t] < far[best])) {
                    best = t;
                }
            }
            if (best < 0) {
                return new ArrayList<>();
            }
            path.add(best);
            at = best;
        } while (far[at] > 0);
        return path;
    }

    /** What show tells of a SPEC: the STATES, and last of all where the LOOP begins, or -1; null for nothing. */
    List<Integer> shown(Tree e) {
        boolean isFalse = e.op.equals("AX") || e.op.equals("AG") || e.op.equals("AF");
        if (!isFalse && !e.op.equals("EX") && !e.op.equals("EF") && !e.op.equals("EG") && !e.op.equals("E")) {
            return null;
        }
        BitSet set = isFalse ? not(holding(e)) : holding(e);
        int start = and(set, initial).nextSetBit(0);
        if (start < 0) {
            return null;
        }
        List<Integer> path = new ArrayList<>();
        path.add(start);
        if (e.op.equals("EG") || e.op.equals("AF")) {
            return around(path, set);
        }
        BitSet goal = holding(e.parts[e.parts.length - 1]);
        goal = and(isFalse ? not(goal) : goal, fair);
        boolean oneStep = e.op.equals("EX") || e.op.equals("AX");
        BitSet through = oneStep ? new BitSet() : e.op.equals("E") ? holding(e.parts[0]) : every;
        if (oneStep || !goal.get(start)) {
            path.addAll(least(start, through, goal));
        }
        path.add(-1);
        return path;
    }

    private List<Integer> around(List<Integer> path, BitSet within) {
        for (int round = 0; round <= total; round++) {
            int begun = path.size() - 1;
            for (int f = 0; f < Math.max(1, fairSets.size()); f++) {
                BitSet goal = fairSets.isEmpty() ? within : and(within, fairSets.get(f));
                path.addAll(least(path.get(path.size() - 1), within, goal));
            }
            BitSet home = new BitSet();
            home.set(path.get(begun));
            List<Integer> back = least(path.get(path.size() - 1), within, home);
            if (!back.isEmpty()) {
                path.addAll(back.subList(0, back.size() - 1));
                path.add(begun);
                return path;
            }
        }
        throw new IllegalStateException("no way back");
    }

    /** What value tells of a VARIABLE in a STATE. */
    int told(int s, int v) {
        int[] values = variables.get(v).values;
        for (int place = 0; place < values.length && variables.get(v).sort == SYMBOL; place++) {
            if (values[place] == valuation[s][v]) {
                return place;
            }
        }
        return valuation[s][v];
    }

    String text() {
        StringBuilder all = new StringBuilder("MODULE main\nVAR");
        StringBuilder lines = new StringBuilder("\nASSIGN");
        for (Variable v : variables) {
            all.append(' ').append(v.name).append(" : ").append(v.type).append(';');
            lines.append(v.alone == null ? "" : " " + v.name + " := " + v.alone.text + ";");
            lines.append(v.init == null ? "" : " init(" + v.name + ") := " + v.init.text + ";");
            lines.append(v.next == null ? "" : " next(" + v.name + ") := " + v.next.text + ";");
        }
        all.append("\nDEFINE");
        for (int d = 0; d < defines.size(); d++) {
            all.append(" d").append(d).append(" := ").append(defines.get(d).text).append(';');
        }
        all.append(lines);
        append(all, "INIT", inits);
        append(all, "INVAR", invars);
        append(all, "TRANS", trans);
        append(all, "FAIRNESS", fairs);
        append(all, "SPEC", specs);
        return all.toString();
    }

    private static void append(StringBuilder all, String kind, List<Tree> trees) {
        for (Tree e : trees) {
            all.append('\n').append(kind).append(' ').append(e.text).append(';');
        }
    }
}
