/** Each sentence on numbers, STATES, PATHS, SHOWING and the calls about them that names a boundary, on both sides of it. */
public final class StateBoundaryTest extends Due {

    private static void arithmetic() {
        sentence = "NUMBERS are -32768 .. 32767 and wrap";
        for (String e : new String[] {"32767 + 1 = -32767 - 1", "-32767 - 2 = 32767", "32767 + 32767 = -2", "256 * 128 = -32767 - 1", "256 * 256 = 0",
            "32767 * 32767 = 1", "181 * 181 = 32761", "182 * 182 = -32412", "-(-32767 - 1) = -32767 - 1", "-32767 - 1 < 0", "32766 + 1 > 0",
            "(-32767 - 1) * -1 = -32767 - 1", "32767 + 1 - 1 = 32767"}) {
            isTrue(e);
        }
        sentence = "/ cuts toward 0, mod has the sign of the first; by 0 both give 0";
        for (String e : new String[] {"7 / 2 = 3", "-7 / 2 = -3", "7 / -2 = -3", "-7 / -2 = 3", "1 / 2 = 0", "-1 / 2 = 0", "(-32767 - 1) / -1 = -32767 - 1",
            "(-32767 - 1) / 1 = -32767 - 1", "32767 / 32767 = 1", "32766 / 32767 = 0", "(-32767 - 1) / 32767 = -1", "(-32767 - 1) / (-32767 - 1) = 1",
            "7 mod 2 = 1", "-7 mod 2 = -1", "7 mod -2 = 1", "-7 mod -2 = -1", "(-32767 - 1) mod -1 = 0", "(-32767 - 1) mod 32767 = -1", "6 mod 3 = 0",
            "5 / 0 = 0", "-5 / 0 = 0", "0 / 0 = 0", "5 mod 0 = 0", "-5 mod 0 = 0", "0 mod 0 = 0", "0 mod 5 = 0"}) {
            isTrue(e);
        }
        // The same with VARIABLES, of which many valuations are reckoned at a time.
        PathProver x = Tapes.of("MODULE main VAR a : -127 .. 128; d : {0, 1, -1, 2, -2, 3, -3, 7, -7, 100, 32767, -32767}; DEFINE b := a * 257; SPEC b / d * d + b mod d = case d = 0 : 0;"
                + " TRUE : b; esac; SPEC d = 0 | b mod d = 0 | (b mod d < 0 <-> b < 0); SPEC b = a * 256 + a;");
        due("b / d * d + b mod d", true, () -> x.check(0));
        due("b mod d", true, () -> x.check(1));
        due("256 and 1", true, () -> x.check(2));

        sentence = "case: the first whose truth is true; if none is: FALSE, 0, or the SYMBOL that stands as a VALUE first of all in the TEXT";
        for (String e : new String[] {"case TRUE : 1; TRUE : 2; esac = 1", "case FALSE : 1; TRUE : 2; TRUE : 3; esac = 2", "case FALSE : 1; esac = 0", "!case FALSE : TRUE; esac",
            "case FALSE : green; esac = red", "case n < 9 : 4; esac = 4"}) {
            isTrue(e);
        }
        PathProver y = Tapes.of("MODULE main VAR s : {u, v}; SPEC case FALSE : u; esac = w; MODULE z VAR t : {w};");
        due("a later SYMBOL", false, () -> y.check(0));
        PathProver z = Tapes.of("MODULE z VAR m : {1}; t : {w, v}; MODULE main VAR s : {u, v}; SPEC case FALSE : u; esac = w; SPEC case s = v : v; esac = v;");
        due("the first SYMBOL, of no INSTANCE", true, () -> z.check(0));
        due("where one is true", 1, () -> z.states(5, 1));
    }

    private static void counts(String text, int... want) {
        PathProver x = Tapes.of(text);
        for (int what = 0; what < want.length; what++) {
            int w = what;
            due("states(" + what + ", 0) of " + text, want[what], () -> x.states(w, 0));
        }
    }

    private static void states() {
        sentence = "each VARIABLE has one of its VALUES; all INVAR are true, and each VARIABLE with a NAME := CHOICE has one of that";
        counts("MODULE main", 1, 1, 1, 1, 0);
        counts("MODULE main VAR x : 0 .. 16383;", 16384, 16384, 16384, 16384, 0);
        counts("MODULE main VAR x : 0 .. 3; INVAR x > 0; INVAR x < 3;", 2, 2, 2, 2, 0);
        counts("MODULE main VAR x : 0 .. 3; INVAR FALSE;", 0, 0, 0, 0, 0);
        counts("MODULE main VAR x : 0 .. 3; y : 0 .. 1; ASSIGN x := {y, 3};", 4, 4, 4, 4, 0);
        sentence = "what is no VALUE of the VARIABLE is none of its choices";
        counts("MODULE main VAR x : 0 .. 3; ASSIGN x := {4, 3, -1};", 1, 1, 1, 1, 0);
        counts("MODULE main VAR x : 0 .. 3; ASSIGN x := 4;", 0, 0, 0, 0, 0);
        counts("MODULE main VAR x : {1, 5}; ASSIGN init(x) := {2, 3, 4, 5};", 2, 1, 2, 2, 0);
        counts("MODULE main VAR x : {1, 5}; ASSIGN init(x) := {2, 3, 4};", 2, 0, 0, 0, 0);
        counts("MODULE main VAR x : 0 .. 3; ASSIGN init(x) := 0; next(x) := x + 1;", 4, 1, 4, 0, 1);
        counts("MODULE main VAR x : 0 .. 3; ASSIGN init(x) := 3; next(x) := {4, x + 1};", 4, 1, 1, 0, 1);
        counts("MODULE main VAR s : {u, v}; ASSIGN s := w; MODULE z VAR t : {w};", 0, 0, 0, 0, 0);
        counts("MODULE main VAR x : {4}; ASSIGN next(x) := {3, 5};", 1, 1, 1, 0, 1);
        counts("MODULE main VAR x : {4}; ASSIGN next(x) := {3, 4};", 1, 1, 1, 1, 0);
        counts("MODULE main VAR x : {4}; y : boolean; ASSIGN init(x) := case y : 4; TRUE : 3; esac;", 2, 1, 2, 2, 0);
        sentence = "case what the one that it comes to gives (one value as above, if none is true)";
        counts("MODULE main VAR x : 0 .. 3; ASSIGN x := case FALSE : {1, 2}; esac;", 1, 1, 1, 1, 0);
        counts("MODULE main VAR x : 1 .. 3; ASSIGN x := case FALSE : {1, 2}; esac;", 0, 0, 0, 0, 0);
        counts("MODULE main VAR s : {u, v}; ASSIGN s := case FALSE : v; esac;", 1, 1, 1, 1, 0);
        counts("MODULE main VAR s : boolean; ASSIGN s := case s : {TRUE, FALSE}; TRUE : TRUE; esac;", 1, 1, 1, 1, 0);
        sentence = "INITIAL: a STATE, all INIT true, each VARIABLE with init has one of its CHOICE";
        counts("MODULE main VAR x : 0 .. 7; INIT x > 1; INIT x < 5; ASSIGN init(x) := {0, 2, 4, 6}; INVAR x != 4;", 7, 1, 7, 7, 0);
        counts("MODULE main VAR x : 0 .. 7; INIT FALSE;", 8, 0, 0, 0, 0);
        sentence = "A STATE s GOES to a STATE t if .. all TRANS are true, next of a VARIABLE being that in t, others in s";
        counts("MODULE main VAR x : 0 .. 7; INIT x = 3; TRANS next(x) = x - 1;", 8, 1, 4, 0, 1);
        counts("MODULE main VAR x : 0 .. 7; INIT x = 3; TRANS next(x) = x - 1 | x = 0; TRANS x = 0 -> next(x) = 0;", 8, 1, 4, 4, 0);
        counts("MODULE main VAR x : 0 .. 7; INIT x = 3; TRANS FALSE;", 8, 1, 1, 0, 1);
        counts("MODULE main VAR x : 0 .. 7; INIT x = 3; INVAR x != 5; ASSIGN next(x) := x + 1;", 7, 1, 2, 0, 1);
        counts("MODULE main VAR x : 0 .. 7; FAIRNESS x = 9;", 8, 8, 8, 0, 0);
        counts("MODULE main VAR x : 0 .. 7; INIT x = 1; TRANS x = 1 & next(x) = 2 | x > 3 | x = 2 & (next(x) = 1 | next(x) = 3);", 8, 1, 3, 2, 1);
        sentence = "ENTRIES: each .. TRANS .. in each INSTANCE (main, too) for itself";
        counts("MODULE m VAR x : boolean; TRANS (x | !x) & next(x) = (!x); MODULE main VAR a : m; b : m; INIT !a.x & !b.x;", 4, 1, 2, 2, 0);
        counts("MODULE m(p) VAR x : boolean; TRANS (x | !x) & next(x) = p & (p | !p); MODULE main VAR a : m(b.x); b : m(!a.x);"
                + " INIT !a.x & !b.x;", 4, 1, 4, 4, 0);
        counts("MODULE m VAR x : 0 .. 3; TRANS x < 3 & next(x) = x + 1 | x = 3 & next(x) = 0; MODULE main VAR a : m; b : m;"
                + " INIT a.x = 0 & b.x = 1;", 16, 1, 4, 4, 0);
        counts("MODULE m(p) VAR x : boolean; y : boolean; TRANS p & next(x) = y & next(y) = x; MODULE main VAR a : m(TRUE); b : m(b.x | !b.x);"
                + " INIT a.x & !a.y & b.x & b.y;", 16, 1, 2, 2, 0);
        counts("MODULE m VAR x : boolean; MODULE main VAR a : m; b : m; TRANS next(a.x) = a.x & next(b.x) = b.x; INIT a.x & !b.x;", 4, 1, 1, 1, 0);
    }

    /** The VALUES of the INITIAL STATES, one after the other. */
    private static String walk(PathProver x) {
        StringBuilder told = new StringBuilder();
        int all = x.states(1, 0);
        for (int n = 0; n < all; n++) {
            x.first(n);
            for (int v = 0; v < x.count(0); v++) {
                told.append(v == 0 ? " " : ",").append(x.value(v));
            }
        }
        return told.toString();
    }

    private static void order() {
        sentence = "ORDER of STATES: by the first VARIABLE whose VALUES differ: FALSE before TRUE, others as they rise, or stand in { }";
        due("booleans", " 0,0 0,1 1,0 1,1", () -> walk(Tapes.of("MODULE main VAR x : boolean; y : boolean;")));
        due("rising", " -2 -1 0 1", () -> walk(Tapes.of("MODULE main VAR x : -2 .. 1;")));
        due("in { }", " 7 -3 5", () -> walk(Tapes.of("MODULE main VAR x : {7, -3, 5};")));
        due("SYMBOLS", " 0,1 1,1 2,1", () -> walk(Tapes.of("MODULE main VAR x : {r, a, b}; y : {b, a}; INIT y = a;")));
        due("by INSTANCES in their places", " 0,3,0 0,3,1 1,4,0 1,4,1",
                () -> walk(Tapes.of("MODULE main VAR x : boolean; i : a; y : boolean; INIT i.n = 3 <-> !x; MODULE a VAR n : 3 .. 4;")));
        sentence = "The n-th INITIAL STATE, from 0, in the ORDER, becomes CURRENT; there is none: IndexOutOfBoundsException";
        PathProver x = Tapes.of("MODULE main VAR x : 0 .. 7; INIT x in {2, 5}; ASSIGN next(x) := {x, 0, 9}; SPEC x = 5;");
        due("first(-1)", IAE, () -> x.first(-1));
        due("first(MIN)", IAE, () -> x.first(Integer.MIN_VALUE));
        due("first(2)", IOB, () -> x.first(2));
        due("first(MAX)", IOB, () -> x.first(Integer.MAX_VALUE));
        due("none CURRENT", 0, () -> x.count(7));
        due("first(1)", 2, () -> x.first(1));
        due("value", 5, () -> x.value(0));
        due("a refused first", IOB, () -> x.first(2));
        due("value", 5, () -> x.value(0));
        due("first(0)", 2, () -> x.first(0));
        due("value", 2, () -> x.value(0));
        PathProver none = Tapes.of("MODULE main INIT FALSE;");
        due("first(0) of none", IOB, () -> none.first(0));
        sentence = "The n-th of the STATES to which the CURRENT one GOES, in the ORDER, becomes CURRENT";
        due("step(-1)", IAE, () -> x.step(-1));
        due("step(2)", IOB, () -> x.step(2));
        due("step(MAX)", IOB, () -> x.step(Integer.MAX_VALUE));
        due("value", 2, () -> x.value(0));
        due("step(1)", 2, () -> x.step(1));
        due("value", 2, () -> x.value(0));
        due("step(0)", 1, () -> x.step(0));
        due("value", 0, () -> x.value(0));
        due("step(1)", IOB, () -> x.step(1));
        PathProver stuck = Tapes.of("MODULE main TRANS FALSE;");
        due("none CURRENT", UOE, () -> stuck.step(0));
        due("none CURRENT, far too large", UOE, () -> stuck.step(99));
        due("first(0) that GOES to none", 0, () -> stuck.first(0));
        due("step(0) to none", IOB, () -> stuck.step(0));
        PathProver all = Tapes.of("MODULE main VAR x : 0 .. 16383;");
        due("first(16383)", 16384, () -> all.first(16383));
        due("first(16384)", IOB, () -> all.first(16384));
        due("step(16383)", 16384, () -> all.step(16383));
        due("value", 16383, () -> all.value(0));
        due("step(16384)", IOB, () -> all.step(16384));
    }

    private static void numbersOfCalls() {
        sentence = "IllegalArgumentException: a number out of range (below 0 always; for n of pick, first and step that alone)";
        PathProver x = Tapes.of("MODULE main VAR x : boolean; y : 0 .. 2; SPEC x; SPEC EF x;");
        for (int bad : new int[] {-1, 2, Integer.MAX_VALUE, Integer.MIN_VALUE}) {
            due("check(" + bad + ")", IAE, () -> x.check(bad));
            due("show(" + bad + ")", IAE, () -> x.show(bad));
            due("holds(" + bad + ")", IAE, () -> x.holds(bad));
            due("value(" + bad + ")", IAE, () -> x.value(bad));
            due("states(5, " + bad + ")", IAE, () -> x.states(5, bad));
        }
        for (int what = 0; what < 5; what++) {
            int w = what;
            for (int bad : new int[] {-1, 1, 2, Integer.MAX_VALUE, Integer.MIN_VALUE}) {
                due("states(" + what + ", " + bad + ")", IAE, () -> x.states(w, bad));
            }
            due("states(" + what + ", 0)", what == 4 ? 0 : 6, () -> x.states(w, 0));
        }
        for (int bad : new int[] {-1, 6, Integer.MAX_VALUE, Integer.MIN_VALUE}) {
            due("states(" + bad + ", 0)", IAE, () -> x.states(bad, 0));
        }
        for (int bad : new int[] {-1, 8, Integer.MAX_VALUE, Integer.MIN_VALUE}) {
            due("count(" + bad + ")", IAE, () -> x.count(bad));
        }
        for (int bad : new int[] {-1, 4, Integer.MAX_VALUE, Integer.MIN_VALUE}) {
            due("tidy(" + bad + ")", IAE, () -> x.tidy(bad));
        }
        for (int bad : new int[] {-1, 3, Integer.MAX_VALUE, Integer.MIN_VALUE}) {
            due("faults(" + bad + ")", IAE, () -> x.faults(bad));
        }
        due("check(1)", true, () -> x.check(1));
        due("holds(1), none CURRENT", UOE, () -> x.holds(1));
        due("value(1), none CURRENT", UOE, () -> x.value(1));
        due("pick(-1)", IAE, () -> x.pick(-1));
        due("pick(0), nothing SHOWN", IOB, () -> x.pick(0));
        PathProver bare = Tapes.of("MODULE main");
        due("check(0) without a SPEC", IAE, () -> bare.check(0));
        due("value(0) without a VARIABLE", IAE, () -> bare.value(0));
        due("states(5, 0) without a SPEC", IAE, () -> bare.states(5, 0));
        due("tidy(0) without a SPEC", 0, () -> bare.tidy(0));

        sentence = "IllegalStateException: no MODEL (then only numbers below 0 of SPECS, STATES and VARIABLES are out of range)";
        PathProver y = new PathProver();
        for (int n : new int[] {0, 1, 99, Integer.MAX_VALUE}) {
            due("check(" + n + ")", ISE, () -> y.check(n));
            due("show(" + n + ")", ISE, () -> y.show(n));
            due("holds(" + n + ")", ISE, () -> y.holds(n));
            due("value(" + n + ")", ISE, () -> y.value(n));
            due("states(5, " + n + ")", ISE, () -> y.states(5, n));
            due("pick(" + n + ")", ISE, () -> y.pick(n));
            due("first(" + n + ")", ISE, () -> y.first(n));
            due("step(" + n + ")", ISE, () -> y.step(n));
        }
        for (int n : new int[] {-1, Integer.MIN_VALUE}) {
            due("check(" + n + ")", IAE, () -> y.check(n));
            due("show(" + n + ")", IAE, () -> y.show(n));
            due("holds(" + n + ")", IAE, () -> y.holds(n));
            due("value(" + n + ")", IAE, () -> y.value(n));
            due("states(5, " + n + ")", IAE, () -> y.states(5, n));
            due("states(0, " + n + ")", IAE, () -> y.states(0, n));
            due("pick(" + n + ")", IAE, () -> y.pick(n));
            due("first(" + n + ")", IAE, () -> y.first(n));
            due("step(" + n + ")", IAE, () -> y.step(n));
        }
        for (int what = 0; what < 5; what++) {
            int w = what;
            due("states(" + what + ", 0)", ISE, () -> y.states(w, 0));
        }
        due("states(6, 0)", IAE, () -> y.states(6, 0));
        due("states(-1, 0)", IAE, () -> y.states(-1, 0));
        due("count(7)", ISE, () -> y.count(7));
        due("count(8)", IAE, () -> y.count(8));
        due("count(-1)", IAE, () -> y.count(-1));
        due("tidy(3)", ISE, () -> y.tidy(3));
        due("tidy(4)", IAE, () -> y.tidy(4));
        due("tidy(-1)", IAE, () -> y.tidy(-1));
        sentence = "What the checker's own watch found (with a MODEL or without)";
        due("faults(0)", 0, () -> y.faults(0));
        due("faults(2)", 0, () -> y.faults(2));
        due("faults(3)", IAE, () -> y.faults(3));
        due("faults(-1)", IAE, () -> y.faults(-1));
        Tapes.feed(y, "MODULE main SPEC ;");
        due("read", IAE, y::read);
        sentence = "IllegalStateException: no MODEL";
        due("count(0) after a refused read", ISE, () -> y.count(0));
    }

    private static void paths() {
        sentence = "A SPEC HOLDS if it is true in all INITIAL STATES";
        PathProver none = Tapes.of("MODULE main VAR x : boolean; INIT FALSE; SPEC FALSE; SPEC EX x;");
        due("none INITIAL", true, () -> none.check(0));
        due("none INITIAL", true, () -> none.check(1));
        due("STATES that have it", 0, () -> none.states(5, 0));
        due("STATES that have it", 2, () -> none.states(5, 1));
        PathProver one = Tapes.of("MODULE main VAR x : 0 .. 2; INIT x > 0; SPEC x > 0; SPEC x > 1;");
        due("all INITIAL", true, () -> one.check(0));
        due("one is not", false, () -> one.check(1));
        sentence = "PATHS are infinite, each STATE GOING to the next";
        PathProver end = Tapes.of("MODULE main VAR x : 0 .. 3; ASSIGN next(x) := case x = 3 : 3; x = 1 : 9; TRUE : {1, 3}; esac; SPEC EX TRUE; SPEC EF x = 1; SPEC EG TRUE;"
                + " SPEC AX FALSE; SPEC AF FALSE; SPEC AG x = 9; SPEC E [ TRUE U x = 1 ]; SPEC A [ FALSE U x = 9 ]; SPEC EX x = 1; SPEC EF x = 3;");
        int[] want = {3, 0, 3, 1, 1, 1, 0, 1, 0, 3};
        for (int i = 0; i < want.length; i++) {
            int spec = i;
            due("states(5, " + i + ")", want[i], () -> end.states(5, spec));
        }
        sentence = "FAIR: each FAIRNESS is true again and again";
        PathProver fair = Tapes.of("MODULE main VAR x : 0 .. 3; ASSIGN next(x) := case x < 2 : {x, x + 1}; x = 2 : {2, 3}; TRUE : 3; esac; FAIRNESS x != 0; FAIRNESS x > 0 & x != 3;"
                + " SPEC EG TRUE; SPEC EF x = 3; SPEC EG x = 0; SPEC EG x = 1; SPEC EX x = 2; SPEC AF x = 2; SPEC A [ x < 2 U x = 2 ]; SPEC EX x = 3;");
        int[] many = {3, 0, 0, 1, 2, 2, 2, 0};
        for (int i = 0; i < many.length; i++) {
            int spec = i;
            due("states(5, " + i + ")", many[i], () -> fair.states(5, spec));
        }
        due("FAIR ones", 3, () -> fair.states(3, 0));
        PathProver apart = Tapes.of("MODULE main VAR x : 0 .. 1; ASSIGN next(x) := x; FAIRNESS x = 0; FAIRNESS x = 1; SPEC EG TRUE; SPEC AF FALSE;");
        due("FAIRNESS apart", 0, () -> apart.states(5, 0));
        due("so all is so on all", true, () -> apart.check(1));
        sentence = "2 those to which a PATH of none or more steps leads from an INITIAL one";
        PathProver far = Tapes.of("MODULE main VAR x : 0 .. 9; INIT x = 4; ASSIGN next(x) := case x < 7 : x + 1; esac;");
        due("reached", 8, () -> far.states(2, 0));
        PathProver still = Tapes.of("MODULE main VAR x : 0 .. 9; INIT x = 4; TRANS FALSE;");
        due("none steps", 1, () -> still.states(2, 0));
        due("of these that GO to none", 1, () -> still.states(4, 0));
    }

    /** What is SHOWN, and where the LOOP begins. */
    private static String path(PathProver x) {
        StringBuilder told = new StringBuilder();
        for (int n = 0; n < x.count(5); n++) {
            x.pick(n);
            for (int v = 0; v < x.count(0); v++) {
                told.append(v == 0 ? " " : ",").append(x.value(v));
            }
        }
        return told.append(" loop ").append(x.count(6)).toString();
    }

    private static void shows(String text, String want) {
        PathProver x = Tapes.of(text);
        due("show of " + text, want, () -> x.show(0) == x.count(5) ? path(x) : "others");
    }

    private static void refuses(String text, Class<?> want) {
        PathProver x = Tapes.of(text);
        due("show of " + text, want, () -> x.show(0));
        due("SHOWN then", 0, () -> x.count(5));
    }

    private static void showing() {
        String v = "MODULE main VAR x : 0 .. 5; ASSIGN init(x) := {1, 2}; next(x) := case x = 0 : 0; x = 5 : {5, 0}; TRUE : {x + 1, x - 1}; esac; SPEC ";
        sentence = "A PATH between sets is LEAST if none is shorter, and .. the first by the ORDER of the first STATES that differ";
        shows("MODULE main VAR x : {3, 1, 2, 0}; INIT x = 0; ASSIGN next(x) := case x = 0 : {1, 2, 3}; x = 2 : {0, 3}; TRUE : x; esac; SPEC EF x in {1, 3};", " 0 3 loop -1");
        shows("MODULE main VAR x : 0 .. 6; INIT x = 0; ASSIGN next(x) := case x = 0 : {2, 1}; x = 1 : {3, 4}; x = 2 : {5}; x in {4, 5} : 6; TRUE : x; esac; SPEC EF x = 6;", " 0 1 4 6 loop -1");
        sentence = "the first such STATE in the ORDER, and on from it .. to a FAIR STATE with q (that itself may be it; for EX just one step)";
        shows(v + "EF x = 5;", " 1 2 3 4 5 loop -1");
        shows(v + "EF x > 0;", " 1 loop -1");
        shows(v + "EF x = 2;", " 1 2 loop -1");
        shows(v + "E [ x > 1 U x = 4 ];", " 2 3 4 loop -1");
        shows(v + "E [ FALSE U x = 2 ];", " 2 loop -1");
        shows(v + "EX TRUE;", " 1 0 loop -1");
        shows(v + "EX x = 3;", " 2 3 loop -1");
        shows(v + "AX x = 0;", " 1 2 loop -1");
        shows(v + "AX x != 3;", " 2 3 loop -1");
        shows(v + "AG x < 3;", " 1 2 3 loop -1");
        shows(v + "AG FALSE;", " 1 loop -1");
        shows("MODULE main VAR x : 0 .. 3; INIT x = 0; ASSIGN next(x) := case x = 0 : {1, 2}; x = 1 : 9; TRUE : {3}; esac; SPEC EF x > 0;", " 0 2 loop -1");
        shows("MODULE main VAR x : 0 .. 3; INIT x = 0; ASSIGN next(x) := case x = 0 : {1, 2}; x = 1 : 9; TRUE : {3}; esac; SPEC EX x > 0;", " 0 2 loop -1");
        // The same far behind in the ORDER, and by what an INSTANCE says.
        shows("MODULE main VAR x : 0 .. 299; INIT x in {100, 200}; ASSIGN next(x) := case x = 100 : 36; x = 36 : 7; x = 200 : {8, 264}; x = 264 : 6; TRUE : x; esac; SPEC EF x = 7;", " 100 36 7 loop -1");
        shows("MODULE main VAR x : 0 .. 299; INIT x in {100, 200}; ASSIGN next(x) := case x = 100 : 36; x = 36 : 7; x = 200 : {8, 264}; x = 264 : 6; TRUE : x; esac; SPEC EF x = 6;", " 200 264 6 loop -1");
        shows("MODULE main VAR i : a(3); j : a(4); MODULE a(p) VAR x : 0 .. 4; ASSIGN init(x) := 0; next(x) := case x < 4 : x + 1; TRUE : 4; esac; SPEC E [ x < p U x = p ];",
                " 0,0 1,1 2,2 3,3 loop -1");
        shows("MODULE main VAR j : b; i : a(4); MODULE b VAR y : {0}; MODULE a(p) VAR x : 0 .. 4; ASSIGN init(x) := 0; next(x) := case x < 4 : x + 1; TRUE : 4; esac;"
                + " SPEC E [ x < p U x = p ];", " 0,0 0,1 0,2 0,3 0,4 loop -1");
        sentence = "for each FAIRNESS in their order (TRUE if there is none) the LEAST PATH in Z of one step or more to a STATE with it; then .. to the START";
        shows("MODULE main VAR x : 0 .. 2; INIT x = 1; ASSIGN next(x) := x; SPEC EG x = 1;", " 1 1 loop 0");
        shows("MODULE main VAR x : 0 .. 2; INIT x = 1; ASSIGN next(x) := (x + 1) mod 3; SPEC EG TRUE;", " 1 2 0 loop 0");
        shows("MODULE main VAR x : 0 .. 2; INIT x = 1; ASSIGN next(x) := (x + 1) mod 3; SPEC AF x = 9;", " 1 2 0 loop 0");
        shows("MODULE main VAR x : 0 .. 2; INIT x = 1; ASSIGN next(x) := (x + 1) mod 3; FAIRNESS x = 1; SPEC EG TRUE;", " 1 2 0 1 2 0 loop 0");
        shows("MODULE main VAR x : 0 .. 2; INIT x = 1; FAIRNESS x = 2; FAIRNESS x = 0; SPEC EG TRUE;", " 1 2 0 loop 0");
        shows("MODULE main VAR x : 0 .. 2; INIT x = 1; FAIRNESS x = 0; FAIRNESS x = 2; FAIRNESS x = 1; SPEC EG TRUE;", " 1 0 2 1 loop 0");
        sentence = "if none does the last STATE is the START, and so on";
        shows("MODULE main VAR x : 0 .. 3; INIT x = 0; ASSIGN next(x) := case x < 3 : x + 1; TRUE : 3; esac; SPEC EG TRUE;", " 0 1 2 3 3 loop 3");
        shows("MODULE main VAR x : 0 .. 3; INIT x = 0; ASSIGN next(x) := case x < 3 : x + 1; TRUE : 2; esac; FAIRNESS x = 3; SPEC EG TRUE;", " 0 1 2 3 2 3 2 loop 3");
        sentence = "Z are the STATES with it; from the first INITIAL one";
        shows("MODULE main VAR x : 0 .. 3; INIT x > 0; ASSIGN next(x) := case x = 2 : {1, 3}; x = 3 : {0, 2}; TRUE : 0; esac; SPEC EG x > 1;", " 2 3 loop 0");
    }

    private static void refusing() {
        sentence = "There is nothing to show (no INITIAL STATE, or none where that is so; or another form than those of SHOWING on the outside)";
        for (String spec : new String[] {"EX TRUE", "EF TRUE", "EG TRUE", "AX FALSE", "AF FALSE", "AG FALSE", "E [ TRUE U TRUE ]"}) {
            refuses("MODULE main INIT FALSE; SPEC " + spec + ";", UOE);
            PathProver x = Tapes.of("MODULE main SPEC " + spec + ";");
            due("show of " + spec, spec.charAt(1) == 'F' && spec.charAt(0) == 'E' || spec.charAt(1) == ' ' || spec.startsWith("AG") ? 1 : 2, () -> x.show(0));
        }
        for (String spec : new String[] {"EX FALSE", "EF FALSE", "EG FALSE", "AX TRUE", "AF TRUE", "AG TRUE", "E [ TRUE U FALSE ]", "A [ TRUE U TRUE ]", "A [ TRUE U FALSE ]",
            "TRUE", "FALSE", "!EF TRUE", "EF TRUE & TRUE", "EF TRUE | EG TRUE", "EF TRUE -> EF TRUE", "EF TRUE <-> EF TRUE", "EF TRUE xor AF FALSE", "1 = 1", "case TRUE : TRUE; esac"}) {
            refuses("MODULE main SPEC " + spec + ";", UOE);
        }
        sentence = "it would have more than 2000 STATES: IndexOutOfBoundsException";
        String line = "MODULE main VAR x : 0 .. 4000; ASSIGN init(x) := 0; next(x) := case x < 4000 : x + 1; TRUE : LAST; esac; SPEC ";
        due("EF of 2000", 2000, () -> Tapes.of(line.replace("LAST", "0") + "EF x = 1999;").show(0));
        refuses(line.replace("LAST", "0") + "EF x = 2000;", IOB);
        refuses(line.replace("LAST", "0") + "AG x != 4000;", IOB);
        refuses(line.replace("LAST", "0") + "EG TRUE;", IOB);
        String ring = "MODULE main VAR x : 0 .. 4000; ASSIGN init(x) := 0; next(x) := case x = LAST : BACK; TRUE : x + 1; esac; SPEC EG TRUE;";
        due("EG of 2000", 2000, () -> Tapes.of(ring.replace("LAST", "1999").replace("BACK", "0")).show(0));
        refuses(ring.replace("LAST", "2000").replace("BACK", "0"), IOB);
        refuses(ring.replace("LAST", "3000").replace("BACK", "3000"), IOB);
        due("EG that ends in 2000", 2000, () -> Tapes.of(ring.replace("LAST", "1998").replace("BACK", "1998")).show(0));
        refuses(ring.replace("LAST", "1999").replace("BACK", "1999"), IOB);
        String fair = "MODULE main VAR x : boolean; INIT !x; ";
        due("1999 FAIRNESS", 2000, () -> Tapes.of(fair + times("FAIRNESS TRUE;", 1999) + "SPEC EG TRUE;").show(0));
        refuses(fair + times("FAIRNESS TRUE;", 2000) + "SPEC EG TRUE;", IOB);

        PathProver most = Tapes.of(line.replace("LAST", "0") + "EF x = 1999; SPEC EF x = 2000;");
        due("show of 2000", 2000, () -> most.show(0));
        due("SHOWN", 2000, () -> most.count(5));
        due("pick(2000)", IOB, () -> most.pick(2000));
        due("pick(1999)", 1, () -> most.pick(1999));
        due("value", 1999, () -> most.value(0));
        due("show of 2001", IOB, () -> most.show(1));
        due("SHOWN", 2000, () -> most.count(5));

        sentence = "It is SHOWN, in place of what was; the CURRENT STATE stays; a call that throws changes nothing";
        PathProver x = Tapes.of(line.replace("LAST", "0") + "EF x = 3; SPEC EF x = 3000; SPEC TRUE; SPEC EX x = 1; SPEC EG FALSE;");
        x.show(0);
        due("pick(2)", 1, () -> x.pick(2));
        Object[] want = {IOB, UOE, UOE, IAE, IAE};
        int[] spec = {1, 2, 4, 5, -1};
        for (int k = 0; k < want.length; k++) {
            int i = spec[k];
            due("show(" + i + ")", want[k], () -> x.show(i));
            due("SHOWN", 4, () -> x.count(5));
            due("value", 2, () -> x.value(0));
            due("pick(4)", IOB, () -> x.pick(4));
            due("value", 2, () -> x.value(0));
        }
        due("show(3)", 2, () -> x.show(3));
        due("value", 2, () -> x.value(0));
        due("pick(2)", IOB, () -> x.pick(2));
        due("pick(1)", 1, () -> x.pick(1));
        due("value", 1, () -> x.value(0));
        sentence = "STATE n that is SHOWN, from 0, becomes CURRENT; there is none: IndexOutOfBoundsException";
        due("pick(MAX)", IOB, () -> x.pick(Integer.MAX_VALUE));
        due("pick(-1)", IAE, () -> x.pick(-1));
        due("pick(0)", 1, () -> x.pick(0));
        due("value", 0, () -> x.value(0));
    }

    private static void values() {
        sentence = "The VALUE of VARIABLE v, from 0, in the CURRENT STATE: 0, 1 for truth; the number; for a SYMBOL its place in { }, from 0";
        PathProver x = Tapes.of("MODULE b VAR t : {last, first}; MODULE main VAR f : boolean; n : -32767 .. -32766; i : b; m : {32767, 0, -5}; o : {lone}; e : 9 .. 9;"
                + " INIT f & n = -32766 & i.t = first & m = -5; SPEC f; SPEC !f;");
        due("value(0), none CURRENT", UOE, () -> x.value(0));
        due("value(6)", IAE, () -> x.value(6));
        due("holds(0), none CURRENT", UOE, () -> x.holds(0));
        due("holds(2)", IAE, () -> x.holds(2));
        due("count(7)", 0, () -> x.count(7));
        due("first(0)", 24, () -> x.first(0));
        due("count(7)", 1, () -> x.count(7));
        int[] want = {1, -32766, 1, -5, 0, 9};
        for (int v = 0; v < want.length; v++) {
            int i = v;
            due("value(" + v + ")", want[v], () -> x.value(i));
        }
        due("value(6)", IAE, () -> x.value(6));
        due("holds(0)", true, () -> x.holds(0));
        due("holds(1)", false, () -> x.holds(1));
        due("step(0)", 24, () -> x.step(0));
        int[] least = {0, -32767, 0, 32767, 0, 9};
        for (int v = 0; v < least.length; v++) {
            int i = v;
            due("value(" + v + ")", least[v], () -> x.value(i));
        }
        due("holds(1)", true, () -> x.holds(1));

        sentence = "0 VARIABLES, 1 BITS, 2 INSTANCES (with main), 3 SPECS, 4 FAIRNESS, 5 .. SHOWN, 6 .. LOOP begins, -1 without one, 7: 1 if a STATE is CURRENT";
        counted(Tapes.of("MODULE main"), 0, 0, 1, 0, 0, 0, -1, 0);
        counted(Tapes.of("MODULE b VAR x : {1}; FAIRNESS TRUE; SPEC TRUE; MODULE main VAR i : b; x : 0 .. 4; j : b; FAIRNESS TRUE;"), 3, 3, 3, 2, 3, 0, -1, 0);
        PathProver y = Tapes.of("MODULE main VAR x : 0 .. 1; INIT x = 0; ASSIGN next(x) := 1; SPEC EG TRUE; SPEC EF x = 1;");
        y.show(0);
        counted(y, 1, 1, 1, 2, 0, 3, 1, 0);
        y.show(1);
        counted(y, 1, 1, 1, 2, 0, 2, -1, 0);
        y.first(0);
        counted(y, 1, 1, 1, 2, 0, 2, -1, 1);

        sentence = "FAIRNESS and SPECS have this order: those of the INSTANCES of a MODULE, in the order of its VARS, then its own as they stand";
        PathProver z = Tapes.of("MODULE main SPEC n = 0; VAR i : a(1); SPEC n = 1; VAR n : 0 .. 63; j : b; SPEC n = 2; DEFINE m := n; MODULE a(p) VAR x : {4}; SPEC p = 1;"
                + " SPEC p = 2; MODULE b SPEC FALSE; VAR l : a(2); k : a(1); SPEC TRUE;");
        int[] has = {64, 0, 0, 64, 64, 0, 0, 64, 1, 1, 1};
        for (int s = 0; s < has.length; s++) {
            int i = s;
            due("states(5, " + s + ")", has[s], () -> z.states(5, i));
        }
        due("check(8)", false, () -> z.check(8));
        z.first(2);
        due("holds(10)", true, () -> z.holds(10));
        due("holds(9)", false, () -> z.holds(9));
        PathProver f = Tapes.of("MODULE main VAR n : 0 .. 4; INIT n = 0; FAIRNESS n = 1; VAR i : a(2); j : a(3); FAIRNESS n = 4; SPEC EG TRUE; DEFINE m := n;"
                + " MODULE a(p) FAIRNESS TRUE; MODULE b");
        due("show", 5, () -> f.show(0));
        due("the order of FAIRNESS", " 0 0 0 1 4 loop 0", () -> path(f));
    }

    private static void counted(PathProver x, int... want) {
        for (int what = 0; what < want.length; what++) {
            int w = what;
            due("count(" + what + ")", want[what], () -> x.count(w));
        }
    }

    private static void tidying() {
        sentence = "Nothing else is told otherwise then. Answers the number of SPECS. what 0 .. 3";
        String text = "MODULE main VAR x : 0 .. 5; y : boolean; ASSIGN init(x) := 0; next(x) := case x < 5 : {x + 1, 0}; TRUE : 5; esac; FAIRNESS y; FAIRNESS !y; SPEC EG x < 5; SPEC AF x = 5;"
                + " SPEC EF x = 5;";
        for (int what = 0; what < 4; what++) {
            int w = what;
            PathProver x = Tapes.of(text);
            due("tidy(" + what + ")", 3, () -> x.tidy(w));
            due("check(0)", true, () -> x.check(0));
            due("check(1)", false, () -> x.check(1));
            due("show(2)", 6, () -> x.show(2));
            due("pick(5)", 2, () -> x.pick(5));
            String before = path(x);
            x.pick(3);
            due("tidy(" + what + ")", 3, () -> x.tidy(w));
            due("CURRENT", 3, () -> x.value(0));
            due("SHOWN", before, () -> path(x));
            for (int other = 0; other < 4; other++) {
                int o = other;
                due("tidy(" + other + ")", 3, () -> x.tidy(o));
                due("states(2, 0)", 12, () -> x.states(2, 0));
                due("states(3, 0)", 12, () -> x.states(3, 0));
                due("states(5, 0)", 10, () -> x.states(5, 0));
                due("count(1)", 4, () -> x.count(1));
                due("show(0)", 3, () -> x.show(0));
                due("first(1)", 4, () -> x.first(1));
                due("step(3)", 4, () -> x.step(3));
                due("holds(0)", true, () -> x.holds(0));
                due("faults(0)", 0, () -> x.faults(0));
                due("faults(1)", 0, () -> x.faults(1));
                due("faults(2)", 0, () -> x.faults(2));
            }
        }
    }

    public static void main(String[] args) {
        arithmetic();
        states();
        order();
        numbersOfCalls();
        paths();
        showing();
        refusing();
        values();
        tidying();
        finish();
    }
}
