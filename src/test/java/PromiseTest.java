import java.util.function.Supplier;

/** Each promise of the document by itself: ordinary inputs, the edges it names, and wrong inputs. */
public final class PromiseTest {
    private static int wrong = 0;
    private static int asked = 0;
    private static String promise = "";

    private static final String TOGGLE = "MODULE main VAR x : boolean; ASSIGN init(x) := FALSE; next(x) := !x;"
            + " SPEC AG EF x; SPEC x; SPEC EX x; SPEC EG TRUE;";
    private static final String COUNT4 = "MODULE main VAR n : 0 .. 4; ASSIGN init(n) := {0, 1}; next(n) :="
            + " case n < 4 : n + 1; TRUE : {0, 4}; esac; FAIRNESS n = 0;"
            + " SPEC EF n = 3; SPEC AG n < 4; SPEC EG n < 5; SPEC AF n = 9; SPEC E [ n < 2 U n = 2 ];"
            + " SPEC EX n = 1; SPEC AX n = 1; SPEC A [ TRUE U n = 4 ]; SPEC !EF n = 3; SPEC (EF n = 3);";

    private static void due(String what, Object want, Supplier<Object> call) {
        Object got;
        try {
            got = call.get();
        } catch (RuntimeException e) {
            got = e.getClass();
        }
        asked++;
        if (!want.equals(got)) {
            wrong++;
            System.out.println(promise + ": " + what + " answered " + got + ", due is " + want);
        }
    }

    private static void same(String what, Object got, Object want) {
        due(what, want, () -> got);
    }

    private static void tape(PathProver x, String text) {
        Tapes.feed(x, text);
    }

    private static PathProver of(String text) {
        return Tapes.of(text);
    }

    private static Object outcome(String text) {
        PathProver x = new PathProver();
        tape(x, text);
        try {
            return x.read();
        } catch (RuntimeException e) {
            return e.getClass();
        }
    }

    private static int placeOf(String text) {
        PathProver x = new PathProver();
        tape(x, text);
        try {
            x.read();
        } catch (RuntimeException e) {
            return x.place();
        }
        return x.place();
    }

    private static final Class<?> IAE = IllegalArgumentException.class;
    private static final Class<?> ISE = IllegalStateException.class;
    private static final Class<?> UOE = UnsupportedOperationException.class;
    private static final Class<?> IOB = IndexOutOfBoundsException.class;

    private static void newObject() {
        promise = "1 a new object";
        PathProver x = new PathProver();
        due("end(0)", 0, () -> x.end(0));
        due("end(1)", IAE, () -> x.end(1));
        due("place()", -1, x::place);
        due("check(0)", ISE, () -> x.check(0));
        due("check(-1)", IAE, () -> x.check(-1));
        due("states(0, 0)", ISE, () -> x.states(0, 0));
        due("states(5, 7)", ISE, () -> x.states(5, 7));
        due("states(0, 7)", IAE, () -> x.states(0, 7));
        due("count(0)", ISE, () -> x.count(0));
        due("show(0)", ISE, () -> x.show(0));
        due("pick(0)", ISE, () -> x.pick(0));
        due("first(0)", ISE, () -> x.first(0));
        due("step(0)", ISE, () -> x.step(0));
        due("value(0)", ISE, () -> x.value(0));
        due("holds(0)", ISE, () -> x.holds(0));
        due("tidy(0)", ISE, () -> x.tidy(0));
        due("tidy(4)", IAE, () -> x.tidy(4));
        due("faults(0)", 0, () -> x.faults(0));
        due("read()", IAE, x::read);
        due("place()", 0, x::place);
    }

    private static void feed() {
        promise = "2 feed";
        PathProver x = new PathProver();
        due("feed", 20, () -> x.feed(0x4D4F4455, 0x4C45206D, 0x61696E20, 0x53504543, 0x20545255));
        due("feed", 40, () -> x.feed(0x453B2020, 0x20202020, 0x20202020, 0x20202020, 0x20202020));
        due("read()", 1, x::read);
        due("feed after read", 20, () -> x.feed(-1, -1, -1, -1, -1));
        due("read()", IAE, x::read);
        due("place()", 0, x::place);
        PathProver full = new PathProver();
        for (int i = 0; i < 3275; i++) {
            full.feed(0, 0, 0, 0, 0);
        }
        full.end(65496);
        due("feed to 65516", 65516, () -> full.feed(1, 2, 3, 4, 5));
        due("feed to 65536", 65536, () -> full.feed(1, 2, 3, 4, 5));
        due("feed above", IOB, () -> full.feed(1, 2, 3, 4, 5));
        due("nothing changed", 65536, () -> full.end(65536));
        full.end(65517);
        due("feed above by one", IOB, () -> full.feed(1, 2, 3, 4, 5));
        due("nothing changed", IAE, () -> full.end(65518));
    }

    private static void end() {
        promise = "3 end";
        PathProver x = new PathProver();
        x.feed(0x20202020, 0x20202020, 0x20202020, 0x20202020, 0x20202020);
        due("end(-1)", IAE, () -> x.end(-1));
        due("end(21)", IAE, () -> x.end(21));
        due("end(20)", 20, () -> x.end(20));
        due("end(7)", 7, () -> x.end(7));
        due("end(8)", IAE, () -> x.end(8));
        due("read()", IAE, x::read);
        due("place() is the length", 7, x::place);
        due("end(0) after read", 0, () -> x.end(0));
        due("end(1) after read", IAE, () -> x.end(1));
    }

    private static String times(String what, int n) {
        return what.repeat(n);
    }

    private static String numbered(String before, String after, int n) {
        StringBuilder all = new StringBuilder();
        for (int i = 0; i < n; i++) {
            all.append(before).append(i).append(after);
        }
        return all.toString();
    }

    private static void readSyntax() {
        promise = "4 read, SYNTAX";
        String v = "MODULE main VAR x : boolean; y : 0 .. 3; SPEC ";
        same("a whole text", outcome(v + "x;"), 1);
        same("blanks and remarks", outcome("-- a\nMODULE\tmain\r\n--b\nSPEC TRUE--c\n;--d"), 1);
        same("no text", placeOf(""), 0);
        same("blanks alone", placeOf("  -- x"), 6);
        same("a byte in no TOKEN", placeOf("MODULE main \u0080"), 12);
        same("a zero byte", placeOf("MODULE main \u0000"), 12);
        same("32767", outcome("MODULE main SPEC 32767 = 032767;"), 1);
        same("32768", placeOf("MODULE main SPEC 32768 = 1;"), 17);
        same("a huge number", placeOf("MODULE main SPEC 1 = 99999999999999999999;"), 21);
        same("123abc", placeOf("MODULE main SPEC 123abc;"), 20);
        same("a kept word as NAME", placeOf("MODULE U"), 7);
        same("! behind =", placeOf(v + "x = !x;"), 50);
        same("EX behind +", placeOf(v + "1 + EX x;"), 50);
        same("two comparisons", placeOf(v + "1 < 2 < 3;"), 52);
        same("a comparison behind in", placeOf(v + "1 in {1} = TRUE;"), 55);
        same("a comparison behind E [ ]", placeOf(v + "E [x U x] = x;"), 56);
        same("<-->", placeOf(v + "x <--> x;"), 55);
        same("case as CHOICE ends at esac", placeOf("MODULE main VAR x : 0 .. 1; ASSIGN x := case TRUE : 1; esac + 1;"), 60);
        same("case in ( ) as CHOICE", outcome("MODULE main VAR x : 0 .. 1; ASSIGN x := (case TRUE : 1; esac) + 1;"), 0);
        same("{ } in DEFINE", placeOf("MODULE main DEFINE d := {1};"), 24);
        same("an empty case", placeOf(v + "case esac;"), 51);
        same("49 ( )", outcome(v + times("(", 49) + "!x" + times(")", 49) + ";"), 1);
        same("50 ( )", placeOf(v + times("(", 50) + "x" + times(")", 50) + ";"), v.length() + 50);
        same("49 ( ) and !!", placeOf(v + times("(", 49) + "!!x" + times(")", 49) + ";"), v.length() + 51);
        same("148 -", placeOf(v + times("- ", 149) + "y = 0;"), v.length() + 298);
        same("149 !", placeOf(v + times("!", 149) + "x;"), v.length() + 149);
    }

    private static void readSound() {
        promise = "4 read, SOUND";
        same("no main", outcome("MODULE a"), UOE);
        same("main with ( )", outcome("MODULE main(p)"), UOE);
        same("MODULES alike", outcome("MODULE a MODULE a MODULE main"), UOE);
        same("NAMES alike", outcome("MODULE a(p) DEFINE p := 1; MODULE main"), UOE);
        same("a VAR in itself, no INSTANCE", outcome("MODULE a VAR b : c; MODULE c VAR d : a; MODULE main"), UOE);
        same("an E without INSTANCE is not looked at", outcome("MODULE a SPEC nothing + TRUE; MODULE main"), 0);
        same("too many E", outcome("MODULE main VAR i : a(1, 2); MODULE a(p)"), UOE);
        same("alone and next", outcome("MODULE main VAR x : boolean; ASSIGN x := x; next(x) := x;"), UOE);
        same("init and next", outcome("MODULE main VAR x : boolean; ASSIGN init(x) := x; ASSIGN next(x) := x;"), 0);
        same("ASSIGN of a DEFINE", outcome("MODULE main DEFINE d := 1; ASSIGN d := 1;"), UOE);
        same("a NAME of ( ) before .", outcome("MODULE main VAR j : n; i : a(j.x); MODULE a(p) SPEC p.x; MODULE n VAR x : boolean;"), UOE);
        same("a NAME of ( ) behind .", outcome("MODULE main VAR i : a(TRUE); SPEC i.p; MODULE a(p)"), UOE);
        same("an INSTANCE hides a SYMBOL", outcome("MODULE main VAR i : a; z : {i, j}; SPEC z = i; MODULE a"), UOE);
        same("a SYMBOL of a MODULE without INSTANCE", outcome("MODULE main VAR z : {i, j}; SPEC z = k; MODULE a VAR q : {k};"), 1);
        same("an E contains itself by ( )", outcome("MODULE main VAR a : m(b.d); b : m(a.d); MODULE m(p) DEFINE d := p;"), UOE);
        same("next by its own NAMES", outcome("MODULE main VAR i : a; TRANS next(i.x) = i.x; MODULE a VAR x : boolean;"), 0);
        same("next of a NAME of ( )", outcome("MODULE main VAR x : boolean; i : a(x); MODULE a(p) TRANS next(p);"), UOE);
        same("next in SPEC", outcome("MODULE main VAR x : boolean; SPEC next(x);"), UOE);
        same("EX in DEFINE", outcome("MODULE main VAR x : boolean; DEFINE d := EX x; SPEC d;"), UOE);
        same("EX in a comparison", outcome("MODULE main VAR x : boolean; SPEC (EX x) = TRUE;"), UOE);
        same("SORTS of =", outcome("MODULE main SPEC 1 = TRUE;"), UOE);
        same("truth = truth", outcome("MODULE main SPEC FALSE = TRUE;"), 1);
        same("SORT of a CHOICE", outcome("MODULE main VAR x : 0 .. 1; ASSIGN x := {0, TRUE};"), UOE);
        same("FAIRNESS of number", outcome("MODULE main FAIRNESS 1;"), UOE);
    }

    private static void readLimits() {
        promise = "4 read, limits";
        String a = "MODULE a MODULE main VAR ";
        same("200 INSTANCES", outcome(a + numbered("i", " : a; ", 199)), 0);
        same("201 INSTANCES", outcome(a + numbered("i", " : a; ", 200)), IOB);
        same("before NAMES in E", outcome(a + numbered("i", " : a; ", 200) + "SPEC nothing;"), IOB);
        same("behind the rest", outcome(a + numbered("i", " : a; ", 200) + "x : 2 .. 1;"), UOE);
        String many = "MODULE a " + times("INIT TRUE;", 19) + " MODULE main VAR " + numbered("i", " : a; ", 199);
        same("4000 ENTRIES", outcome(many + times("INIT TRUE;", 20)), 0);
        same("4001 ENTRIES", outcome(many + times("INIT TRUE;", 21)), IOB);
        String wide = "MODULE main VAR " + numbered("i", " : m" + 1 + "; ", 2);
        StringBuilder tree = new StringBuilder(wide);
        for (int k = 1; k < 60; k++) {
            tree.append("MODULE m" + k + " VAR a : m" + (k + 1) + "; b : m" + (k + 1) + "; ");
        }
        same("INSTANCES beyond counting", outcome(tree + "MODULE m60"), IOB);
        String v = "MODULE main VAR x : boolean; ";
        same("HEIGHT 120", outcome(v + "SPEC " + times("!", 119) + "x;"), 1);
        same("HEIGHT 121", outcome(v + "SPEC " + times("!", 120) + "x;"), IOB);
        same("a chain is one", outcome(v + "SPEC " + times("x & ", 400) + "x;"), 1);
        same("-> is none", outcome(v + "SPEC " + times("x -> ", 120) + "x;"), IOB);
        StringBuilder defs = new StringBuilder(v + "DEFINE d0 := x; ");
        for (int k = 1; k < 120; k++) {
            defs.append("d" + k + " := d" + (k - 1) + "; ");
        }
        same("HEIGHT by NAMES 120", outcome(defs.toString()), 0);
        same("HEIGHT by NAMES 121", outcome(defs + "SPEC d119;"), IOB);
        same("HEIGHT before SORTS", outcome(defs + "SPEC d119; SPEC 1 + TRUE;"), IOB);
        same("NAMES before HEIGHT", outcome(defs + "SPEC d119; SPEC nothing;"), UOE);
        same("14 BITS", outcome("MODULE main VAR x : 0 .. 8191; y : boolean; z : {1};"), 0);
        same("15 BITS", outcome("MODULE main VAR x : 0 .. 8192; y : boolean; z : {1};"), IOB);
        same("SORTS before BITS", outcome("MODULE main VAR x : 0 .. 32767; SPEC x;"), UOE);
    }

    private static void readState() {
        promise = "4 read, what stays";
        PathProver x = of(TOGGLE);
        x.show(2);
        x.first(0);
        tape(x, "MODULE main SPEC 1;");
        due("read()", UOE, x::read);
        due("the MODEL stays", 4, () -> x.count(3));
        due("SHOWN stays", 2, () -> x.count(5));
        due("CURRENT stays", 1, () -> x.count(7));
        due("the tape is empty", IAE, () -> x.end(1));
        tape(x, "MODULE main SPEC FALSE; SPEC TRUE;");
        due("read()", 2, x::read);
        due("nothing SHOWN", 0, () -> x.count(5));
        due("nothing CURRENT", 0, () -> x.count(7));
        due("check(0)", false, () -> x.check(0));
        due("check(1)", true, () -> x.check(1));
    }

    private static void place() {
        promise = "5 place";
        PathProver x = new PathProver();
        tape(x, "MODULE main SPEC ;");
        due("read()", IAE, x::read);
        due("place()", 17, x::place);
        due("place() again", 17, x::place);
        tape(x, "MODULE main SPEC 1;");
        due("place() before the next read", 17, x::place);
        due("read()", UOE, x::read);
        due("place() of no SYNTAX", -1, x::place);
        tape(x, "MODULE main");
        due("read()", 0, x::read);
        due("place()", -1, x::place);
    }

    private static void check() {
        promise = "6 check";
        PathProver x = of(COUNT4);
        boolean[] want = {true, false, true, false, true, false, false, true, false, true};
        for (int i = 0; i < want.length; i++) {
            int spec = i;
            due("check(" + i + ")", want[i], () -> x.check(spec));
        }
        due("check(-1)", IAE, () -> x.check(-1));
        due("check(10)", IAE, () -> x.check(10));
        due("no INITIAL STATE", true, () -> of("MODULE main INIT FALSE; SPEC FALSE;").check(0));
        PathProver dead = of("MODULE main TRANS FALSE; SPEC EF TRUE; SPEC AF FALSE; SPEC EX TRUE; SPEC AX FALSE;");
        due("EF without a PATH", false, () -> dead.check(0));
        due("AF without a PATH", true, () -> dead.check(1));
        due("EX without a PATH", false, () -> dead.check(2));
        due("AX without a PATH", true, () -> dead.check(3));
        PathProver fair = of("MODULE main VAR x : boolean; FAIRNESS x; FAIRNESS !x; SPEC EG x; SPEC AF x; SPEC E [x U !x];");
        due("EG against FAIRNESS", false, () -> fair.check(0));
        due("AF by FAIRNESS", true, () -> fair.check(1));
        due("E [ ]", true, () -> fair.check(2));
    }

    private static void arithmetic() {
        promise = "6 check, what E are";
        String[] truths = {"32767 + 1 = -32767 - 1", "-7 / 2 = -3", "-7 mod 2 = -1", "7 mod -2 = 1", "5 / 0 = 0", "5 mod 0 = 0",
            "-(-32767 - 1) = -32767 - 1", "(-32767 - 1) / -1 = -32767 - 1", "300 * 300 = 24464", "10 - 3 - 2 = 5", "2 * 7 mod 4 = 2",
            "case FALSE : 1; esac = 0", "case FALSE : TRUE; esac = FALSE", "case FALSE : d; esac = c", "case TRUE : 1; TRUE : 2; esac = 1",
            "FALSE -> FALSE -> FALSE", "(FALSE <-> FALSE <-> FALSE) = FALSE", "TRUE xor TRUE | TRUE", "!FALSE & TRUE", "3 in {1, 2, 3}",
            "!(3 in {1, 2})", "d != c", "1 < 2", "2 >= 2", "!1 = 2"};
        StringBuilder text = new StringBuilder("MODULE z VAR q : {c, d}; MODULE main ");
        for (String truth : truths) {
            text.append("SPEC ").append(truth).append("; ");
        }
        PathProver x = of(text.toString());
        for (int i = 0; i < truths.length; i++) {
            int spec = i;
            due(truths[i], true, () -> x.check(spec));
        }
    }

    private static void states() {
        promise = "7 states";
        PathProver x = of("MODULE main VAR x : 0 .. 7; y : {a, b}; INVAR x < 6; ASSIGN y := {a, b}; init(x) := {1, 2, 9};"
                + " TRANS next(x) = x + 2; TRANS next(y) = y; SPEC EF x = 5; SPEC EX TRUE;");
        int[] want = {12, 4, 10, 0, 4};
        for (int i = 0; i < want.length; i++) {
            int what = i;
            due("states(" + i + ", 0)", want[i], () -> x.states(what, 0));
        }
        due("states(5, 0)", 0, () -> x.states(5, 0));
        due("states(5, 2)", IAE, () -> x.states(5, 2));
        due("states(5, -1)", IAE, () -> x.states(5, -1));
        due("states(6, 0)", IAE, () -> x.states(6, 0));
        due("states(-1, 0)", IAE, () -> x.states(-1, 0));
        due("states(0, 1)", IAE, () -> x.states(0, 1));
        PathProver all = of("MODULE main VAR x : 0 .. 16383; SPEC EX x = 0; SPEC x mod 3 = 0;");
        due("all to all", 16384, () -> all.states(5, 0));
        due("a third", 5462, () -> all.states(5, 1));
        due("FAIR ones", 16384, () -> all.states(3, 0));
        PathProver choice = of("MODULE main VAR x : 0 .. 3; z : {1}; ASSIGN z := x;");
        due("a VARIABLE of one VALUE", 1, () -> choice.states(0, 0));
        PathProver none = of("MODULE main VAR x : 1 .. 2; ASSIGN next(x) := case FALSE : x; esac;");
        due("a case without a truth gives 0, which is no VALUE", 2, () -> none.states(4, 0));
    }

    private static void count() {
        promise = "8 count";
        PathProver x = of("MODULE a(p) VAR u : 0 .. 2; v : {k}; FAIRNESS p; SPEC u = 1; MODULE main VAR w : boolean;"
                + " i : a(w); t : 1 .. 5; j : a(TRUE); SPEC EF w; SPEC i.u = 1; FAIRNESS TRUE;");
        int[] want = {6, 8, 3, 4, 3, 0, -1, 0};
        for (int i = 0; i < want.length; i++) {
            int what = i;
            due("count(" + i + ")", want[i], () -> x.count(what));
        }
        due("count(8)", IAE, () -> x.count(8));
        due("count(-1)", IAE, () -> x.count(-1));
        x.first(0);
        due("count(7)", 1, () -> x.count(7));
        x.show(2);
        due("count(5)", 2, () -> x.count(5));
        due("count(6)", -1, () -> x.count(6));
        due("SPECS of INSTANCES come first", 90, () -> x.states(5, 2));
        due("their own FAIRNESS counts", 30, () -> x.states(5, 0));
    }

    private static String path(PathProver x, int variables) {
        StringBuilder told = new StringBuilder();
        for (int n = 0; n < x.count(5); n++) {
            x.pick(n);
            for (int v = 0; v < variables; v++) {
                told.append(v == 0 ? " " : ",").append(x.value(v));
            }
        }
        return told + " loop " + x.count(6);
    }

    private static void show() {
        promise = "9 show";
        PathProver x = of(COUNT4);
        due("show(0) EF", 4, () -> x.show(0));
        same("its path", path(x, 1), " 0 1 2 3 loop -1");
        due("show(1) AG", 5, () -> x.show(1));
        same("its path", path(x, 1), " 0 1 2 3 4 loop -1");
        due("show(2) EG", 10, () -> x.show(2));
        same("its path, from a STATE with FAIRNESS back to itself", path(x, 1), " 0 1 2 3 4 0 1 2 3 4 loop 0");
        due("show(4) E [ ]", 3, () -> x.show(4));
        due("show(5) EX", 2, () -> x.show(5));
        same("its path", path(x, 1), " 0 1 loop -1");
        due("show(6) AX", 2, () -> x.show(6));
        same("its path", path(x, 1), " 1 2 loop -1");
        due("show(7) A [ ]", UOE, () -> x.show(7));
        due("show(8) of another form", UOE, () -> x.show(8));
        due("SHOWN stays", 2, () -> x.count(5));
        due("show(9) in ( )", 4, () -> x.show(9));
        due("show(10)", IAE, () -> x.show(10));
        due("show(-1)", IAE, () -> x.show(-1));
        PathProver one = of("MODULE main SPEC EG TRUE; SPEC EF TRUE; SPEC AF FALSE; SPEC EF FALSE; SPEC AG TRUE; SPEC TRUE;");
        due("EG on one STATE", 2, () -> one.show(0));
        due("its LOOP", 0, () -> one.count(6));
        due("EF at once", 1, () -> one.show(1));
        due("AF FALSE", 2, () -> one.show(2));
        due("EF FALSE", UOE, () -> one.show(3));
        due("AG TRUE", UOE, () -> one.show(4));
        due("TRUE", UOE, () -> one.show(5));
        PathProver none = of("MODULE main INIT FALSE; SPEC EG TRUE;");
        due("no INITIAL STATE", UOE, () -> none.show(0));
    }

    private static void showMore() {
        promise = "9 show, LOOPS and the limit";
        PathProver late = of("MODULE main VAR x : 0 .. 5; ASSIGN init(x) := 0; next(x) :="
                + " case x = 0 : {1, 2}; x = 1 : 3; x = 2 : 2; x = 3 : {4, 5}; x = 4 : 3; TRUE : 5; esac;"
                + " FAIRNESS x != 2; FAIRNESS x = 3 | x = 5; SPEC EG TRUE; SPEC AF x = 2; SPEC EG x < 5;");
        due("show(0)", 6, () -> late.show(0));
        same("a START that none leads to", path(late, 1), " 0 1 3 4 3 4 loop 2");
        due("show(2)", 6, () -> late.show(2));
        String head = "MODULE main VAR x : 0 .. 16383; ASSIGN init(x) := 0; next(x) := (x + 1) mod 16384; SPEC EF x = ";
        due("2000 STATES", 2000, () -> of(head + "1999;").show(0));
        due("2001 STATES", IOB, () -> of(head + "2000;").show(0));
        String ring = "MODULE main VAR x : 0 .. 16383; ASSIGN init(x) := 0; next(x) := case x = LAST : 0; TRUE : x + 1; esac; SPEC EG TRUE;";
        due("a LOOP of 2000", 2000, () -> of(ring.replace("LAST", "1999")).show(0));
        due("a LOOP of 2001", IOB, () -> of(ring.replace("LAST", "2000")).show(0));
        PathProver kept = of(head + "2000; SPEC EF x = 2;");
        kept.show(1);
        due("show(0)", IOB, () -> kept.show(0));
        due("SHOWN stays", 3, () -> kept.count(5));
        PathProver listed = of("MODULE main VAR x : {3, 1, 2}; INIT x = 2; SPEC EX x < 4;");
        due("show(0)", 2, () -> listed.show(0));
        same("the ORDER is that of { }", path(listed, 1), " 2 3 loop -1");
    }

    private static void pickFirstStep() {
        promise = "10 pick";
        PathProver x = of(COUNT4);
        due("pick(0), nothing SHOWN", IOB, () -> x.pick(0));
        due("pick(-1)", IAE, () -> x.pick(-1));
        x.show(1);
        due("pick(4)", 2, () -> x.pick(4));
        due("value(0)", 4, () -> x.value(0));
        due("pick(5)", IOB, () -> x.pick(5));
        due("CURRENT stays", 4, () -> x.value(0));
        x.show(5);
        due("CURRENT stays after show", 4, () -> x.value(0));
        due("pick(0)", 1, () -> x.pick(0));
        promise = "11 first";
        due("first(1)", 1, () -> x.first(1));
        due("value(0)", 1, () -> x.value(0));
        due("first(2)", IOB, () -> x.first(2));
        due("first(-1)", IAE, () -> x.first(-1));
        due("first(2147483647)", IOB, () -> x.first(Integer.MAX_VALUE));
        due("CURRENT stays", 1, () -> x.value(0));
        promise = "12 step";
        PathProver y = of(COUNT4);
        due("step(0), none CURRENT", UOE, () -> y.step(0));
        due("step(-1)", IAE, () -> y.step(-1));
        y.first(0);
        due("step(1)", IOB, () -> y.step(1));
        due("CURRENT stays", 0, () -> y.value(0));
        due("step(0)", 1, () -> y.step(0));
        due("step(0)", 1, () -> y.step(0));
        due("step(0)", 1, () -> y.step(0));
        due("step(0)", 2, () -> y.step(0));
        due("value(0)", 4, () -> y.value(0));
        due("step(1)", 2, () -> y.step(1));
        due("value(0)", 4, () -> y.value(0));
        due("step(0)", 1, () -> y.step(0));
        due("value(0)", 0, () -> y.value(0));
    }

    private static void valueHolds() {
        promise = "13 value";
        PathProver x = of("MODULE a VAR k : {7, -7}; MODULE main VAR b : boolean; s : {red, green}; i : a; r : -3 .. 4; o : {lone};"
                + " q : 9 .. 9; INIT b & s = green & i.k = -7 & r = -2; SPEC b; SPEC EX !b; SPEC AX r = 1;");
        due("none CURRENT", UOE, () -> x.value(0));
        due("value(-1)", IAE, () -> x.value(-1));
        due("value(6)", IAE, () -> x.value(6));
        due("first(0)", 64, () -> x.first(0));
        int[] want = {1, 1, -7, -2, 0, 9};
        for (int i = 0; i < want.length; i++) {
            int v = i;
            due("value(" + i + ")", want[i], () -> x.value(v));
        }
        promise = "14 holds";
        due("holds(0)", true, () -> x.holds(0));
        due("holds(1)", true, () -> x.holds(1));
        due("holds(2)", false, () -> x.holds(2));
        due("holds(3)", IAE, () -> x.holds(3));
        due("holds(-1)", IAE, () -> x.holds(-1));
        x.step(0);
        due("holds(0) elsewhere", false, () -> x.holds(0));
        due("none CURRENT", UOE, () -> of(TOGGLE).holds(0));
    }

    private static void tidyFaults() {
        promise = "15 tidy";
        PathProver x = of(COUNT4);
        x.show(1);
        x.pick(2);
        for (int what = 0; what <= 3; what++) {
            int how = what;
            due("tidy(" + what + ")", 10, () -> x.tidy(how));
            due("SHOWN stays", 5, () -> x.count(5));
            due("CURRENT stays", 2, () -> x.value(0));
            due("check(0)", true, () -> x.check(0));
            due("states(5, 4)", 3, () -> x.states(5, 4));
            due("show(2)", 10, () -> x.show(2));
            due("show(1)", 5, () -> x.show(1));
        }
        due("tidy(-1)", IAE, () -> x.tidy(-1));
        due("tidy(4)", IAE, () -> x.tidy(4));
        promise = "16 faults";
        for (int what = 0; what <= 2; what++) {
            int how = what;
            due("faults(" + what + ")", 0, () -> x.faults(how));
        }
        due("faults(3)", IAE, () -> x.faults(3));
        due("faults(-1)", IAE, () -> x.faults(-1));
    }

    public static void main(String[] args) {
        newObject();
        feed();
        end();
        readSyntax();
        readSound();
        readLimits();
        readState();
        place();
        check();
        arithmetic();
        states();
        count();
        show();
        showMore();
        pickFirstStep();
        valueHolds();
        tidyFaults();
        System.out.println(wrong == 0 ? asked + " answers are as due" : wrong + " answers are not as due");
        if (wrong != 0) {
            System.exit(1);
        }
    }
}
