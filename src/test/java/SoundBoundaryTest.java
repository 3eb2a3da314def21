/** Each sentence on what is SOUND, on HEIGHT, the limits and read that names a boundary, on both sides of it. */
public final class SoundBoundaryTest extends Due {
    private static final String V = "MODULE a(p) VAR x : boolean; DEFINE d := p; MODULE main"
            + " VAR x : boolean; y : boolean; n : 0 .. 3; s : {red, green}; i : a(x); DEFINE f := n + 1; ";

    private static void modules() {
        sentence = "NAMES of MODULES are different, one is main, without ( )";
        reads("MODULE a", UOE);
        reads("MODULE Main", UOE);
        reads("MODULE main(p)", UOE);
        reads("MODULE main MODULE main", UOE);
        reads("MODULE a MODULE main MODULE a", UOE);
        reads("MODULE a MODULE main MODULE b", 0);

        sentence = "All but what stands in an E is looked at in all MODULES, also in those of which there is no INSTANCE";
        for (String bad : new String[] {"VAR x : 2 .. 1;", "VAR x : {1, 1};", "VAR x : {1, r};", "VAR x : nowhere;", "VAR x : b;",
            "VAR x : c(1);", "VAR x : boolean; x : boolean;", "ASSIGN x := 1;", "VAR x : boolean; ASSIGN x := x; x := x;", "VAR x : a;"}) {
            reads("MODULE a " + bad + " MODULE b(p) MODULE c MODULE main", UOE);
        }
        for (String fine : new String[] {"SPEC 1;", "SPEC nowhere;", "DEFINE d := d;", "INIT EX TRUE;", "VAR x : boolean; ASSIGN x := 1;",
            "SPEC " + times("!", 140) + "TRUE;", "VAR x : 0 .. 32767;", "VAR x : b(nowhere + TRUE);", many("INIT TRUE;", 4100), "SPEC next(q) = (EX 1);"}) {
            reads("MODULE a " + fine + " MODULE b(p) MODULE main", 0);
        }

        reads("MODULE main VAR x : nowhere; " + many("MODULE m# ", 60), UOE);
        reads("MODULE main VAR x : m59; " + many("MODULE m# ", 60), 0);

        sentence = "none has VARS of its own MODULE, however deep";
        reads("MODULE main VAR x : main;", UOE);
        reads("MODULE a VAR x : a; MODULE main", UOE);
        reads("MODULE a VAR x : b; MODULE b VAR x : c; MODULE c VAR x : a; MODULE main", UOE);
        reads("MODULE a VAR x : main; MODULE main VAR x : a;", UOE);
        reads("MODULE a VAR x : b; y : b; MODULE b VAR x : c; y : c; MODULE c MODULE main VAR x : a; y : b; z : c;", 0);

        sentence = "In a MODULE the NAMES in ( ), of VAR and DEFINE are different";
        for (String bad : new String[] {"a(p, p)", "a(p, q) VAR p : boolean;", "a(p) DEFINE p := 1;", "a VAR p : boolean; p : boolean;",
            "a VAR p : boolean; DEFINE p := 1;", "a DEFINE p := 1; p := 1;", "a DEFINE p := 1; VAR p : b;"}) {
            reads("MODULE " + bad + " MODULE b MODULE main", UOE);
        }
        reads("MODULE a(p) VAR q : boolean; DEFINE r := 1; MODULE b(p) VAR r : boolean; DEFINE q := 1; MODULE p MODULE main", 0);

        sentence = "an INSTANCE of that MODULE, with as many E as that has NAMES in ( )";
        String two = " MODULE none MODULE two(p, q)";
        reads("MODULE main VAR i : two;" + two, UOE);
        reads("MODULE main VAR i : two(1);" + two, UOE);
        reads("MODULE main VAR i : two(1, 2);" + two, 0);
        reads("MODULE main VAR i : two(1, 2, 3);" + two, UOE);
        reads("MODULE main VAR i : none(1);" + two, UOE);
        reads("MODULE main VAR i : none;" + two, 0);
    }

    private static void types() {
        sentence = "N .. N, the first not above the second";
        reads("MODULE main VAR x : 1 .. 0;", UOE);
        reads("MODULE main VAR x : 0 .. -1;", UOE);
        reads("MODULE main VAR x : -1 .. -2;", UOE);
        reads("MODULE main VAR x : 1 .. 1; y : -2 .. -2; z : -1 .. 0;", 0);
        sentence = "its VALUES are different";
        reads("MODULE main VAR x : {1, 2, 1};", UOE);
        reads("MODULE main VAR x : {0, -0};", UOE);
        reads("MODULE main VAR x : {7, 007};", UOE);
        reads("MODULE main VAR x : {q, r, q};", UOE);
        reads("MODULE main VAR x : {1, -1}; y : {q, Q}; z : {1, -1};", 0);
        sentence = "numbers (N .. N, .. or { } of numbers alone) or SYMBOLS (NAMES alone)";
        reads("MODULE main VAR x : {1, q};", UOE);
        reads("MODULE main VAR x : {q, 1};", UOE);
        reads("MODULE main VAR x : {q}; y : {1};", 0);

        sentence = "A NAME of ASSIGN is a VARIABLE of the MODULE itself";
        for (String bad : new String[] {"nowhere", "i", "f", "red"}) {
            reads(V + "ASSIGN " + bad + " := TRUE;", UOE);
            reads(V + "ASSIGN init(" + bad + ") := TRUE;", UOE);
        }
        reads("MODULE main VAR x : boolean; i : a(x); MODULE a(p) ASSIGN next(p) := TRUE;", UOE);
        sentence = "none is there twice (init, next, or alone; alone not with the others)";
        for (String bad : new String[] {"x := x; x := x;", "x := x; init(x) := x;", "init(x) := x; x := x;", "x := x; next(x) := x;", "next(x) := x; x := x;",
            "init(x) := x; init(x) := x;", "next(x) := x; next(x) := x;", "init(x) := x; next(x) := x; init(x) := x;", "x := x; ASSIGN x := x;"}) {
            reads(V + "ASSIGN " + bad, UOE);
        }
        reads(V + "ASSIGN next(x) := x; init(x) := x; y := y; ASSIGN init(n) := n; ASSIGN next(n) := n;", 0);
    }

    private static void names() {
        sentence = "A NAME in an E is nothing of what is told";
        for (String bad : new String[] {"nowhere", "i", "a", "main", "i.p", "i.nowhere", "i.red", "x.x", "f.x", "red.x", "nowhere.x", "i.x.x", "i.i.x"}) {
            reads(V + "SPEC " + bad + " = " + bad + ";", UOE);
            reads(V + "TRANS next(" + bad + ") = TRUE;", UOE);
        }
        reads(V + "SPEC x & i.x & i.d & f = 1 & s = red;", 1);
        reads("MODULE main VAR j : b; SPEC j.i.x & j.i.d; MODULE b VAR i : a; MODULE a VAR x : boolean; DEFINE d := x;", 1);
        reads("MODULE main VAR j : b; SPEC j.i; MODULE b VAR i : a; MODULE a VAR x : boolean;", UOE);

        sentence = "(the first one is then a VAR that is an INSTANCE, not a NAME of the ( ))";
        reads("MODULE main VAR i : a; j : b(i.x); MODULE a VAR x : boolean; MODULE b(p) SPEC p;", 1);
        reads("MODULE main VAR i : a; j : b(i.x); MODULE a VAR x : boolean; MODULE b(p) SPEC p.x;", UOE);

        sentence = "A single one that is none of these (nor an INSTANCE), but a VALUE in some TYPE of the TEXT: a SYMBOL";
        reads("MODULE main VAR red : boolean; s : {red, green}; SPEC red;", 1);
        reads("MODULE main VAR red : boolean; s : {red, green}; SPEC s = red;", UOE);
        reads("MODULE main VAR red : a; s : {red, green}; SPEC s = red; MODULE a", UOE);
        reads("MODULE main VAR s : {red, green}; SPEC s = blue; MODULE a VAR t : {blue};", 1);
        reads("MODULE main VAR s : {red, green}; SPEC s = blue;", UOE);
        reads("MODULE main SPEC blue = blue; MODULE a VAR t : {blue};", 1);
        reads("MODULE main VAR i : a(blue); MODULE a(blue) VAR t : {blue}; SPEC blue = t;", 1);

        sentence = "No E contains itself so";
        reads("MODULE main DEFINE d := d;", UOE);
        reads("MODULE main DEFINE d := e + 1; e := f; f := - d;", UOE);
        reads("MODULE main VAR i : a(i.d); MODULE a(p) DEFINE d := p;", UOE);
        reads("MODULE main VAR i : a(i.d); MODULE a(p) VAR x : boolean; DEFINE d := x; SPEC p;", 1);
        reads("MODULE main VAR i : a(j.d); j : a(i.d); MODULE a(p) DEFINE d := p;", UOE);
        reads("MODULE main DEFINE d := e; e := f; f := 1;", 0);
        reads("MODULE main VAR x : boolean; ASSIGN x := x;", 0);

        sentence = "next: of a VARIABLE by its own NAMES (not by what stands for it), in TRANS alone";
        reads(V + "TRANS next(x) & next(i.x) & next(n) = 1 & next(s) = red;", 0);
        for (String bad : new String[] {"f", "red", "i.d"}) {
            reads(V + "TRANS next(" + bad + ") = next(" + bad + ");", UOE);
        }
        reads("MODULE main VAR x : boolean; i : a(x); MODULE a(p) TRANS next(p);", UOE);
        for (String bad : new String[] {"INIT", "INVAR", "FAIRNESS", "SPEC", "DEFINE g :=", "ASSIGN init(x) :=", "ASSIGN next(x) :=", "ASSIGN x :="}) {
            reads(V + bad + " next(x);", UOE);
            reads(V + bad + " x;", bad.equals("SPEC") ? 1 : 0);
        }
        reads("MODULE main VAR x : boolean; i : a(next(x)); MODULE a(p)", UOE);

        sentence = "EX .. A [ ]: in SPEC alone, and in no DEFINE nor E of an INSTANCE";
        for (String timed : new String[] {"EX x", "EF x", "EG x", "AX x", "AF x", "AG x", "E [ x U x ]", "A [ x U x ]"}) {
            reads(V + "SPEC " + timed + ";", 1);
            reads(V + "SPEC !(" + timed + ") & (x | (y xor " + timed + ") -> x <-> EX (" + timed + "));", 1);
            for (String bad : new String[] {"INIT", "INVAR", "TRANS", "FAIRNESS", "DEFINE g :=", "ASSIGN init(x) :=", "ASSIGN next(x) :="}) {
                reads(V + bad + " " + timed + ";", UOE);
            }
            reads("MODULE main VAR x : boolean; i : a(" + timed + "); MODULE a(p)", UOE);
            sentence = "What stands in a comparison, in +, -, *, /, mod, in, case or behind a . has no EX .. in it";
            for (String bad : new String[] {"(#) = TRUE", "TRUE != (#)", "(#) in {TRUE}", "TRUE in {TRUE, (#)}", "case # : TRUE; esac",
                "case TRUE : TRUE; TRUE : #; esac", "(!(#)) = x", "1 + (#) = 1", "1 < (#)", "case x : (x & (#)); esac"}) {
                reads(V + "SPEC " + bad.replace("#", timed) + ";", UOE);
            }
            sentence = "EX .. A [ ]: in SPEC alone, and in no DEFINE nor E of an INSTANCE";
        }
    }

    private static void sorts() {
        sentence = "<-> -> | xor & ! and EX .. take and give truth";
        for (String op : new String[] {"<->", "->", "|", "xor", "&"}) {
            reads(V + "SPEC x " + op + " y;", 1);
            for (String bad : new String[] {"n", "s", "1", "red", "f"}) {
                reads(V + "SPEC x " + op + " " + bad + ";", UOE);
                reads(V + "SPEC " + bad + " " + op + " x;", UOE);
            }
            reads(V + "SPEC (x " + op + " y) = 1;", UOE);
        }
        for (String form : new String[] {"!#", "EX #", "EF #", "EG #", "AX #", "AF #", "AG #", "E [ # U x ]", "E [ x U # ]", "A [ # U x ]", "A [ x U # ]"}) {
            reads(V + "SPEC " + form.replace("#", "x") + ";", 1);
            reads(V + "SPEC " + form.replace("#", "n") + ";", UOE);
            reads(V + "SPEC " + form.replace("#", "s") + ";", UOE);
        }
        sentence = "+ - * / mod and - numbers; < .. numbers, and give truth";
        for (String op : new String[] {"+", "-", "*", "/", "mod"}) {
            reads(V + "SPEC n " + op + " f = 1;", 1);
            reads(V + "SPEC n " + op + " f = x;", UOE);
            reads(V + "SPEC n " + op + " f;", UOE);
            for (String bad : new String[] {"x", "s", "red"}) {
                reads(V + "SPEC n " + op + " " + bad + " = 1;", UOE);
                reads(V + "SPEC " + bad + " " + op + " n = 1;", UOE);
                reads(V + "SPEC " + bad + " " + op + " " + bad + " = " + bad + ";", UOE);
            }
        }
        reads(V + "SPEC - n = 1;", 1);
        reads(V + "SPEC - x = x;", UOE);
        reads(V + "SPEC - s = s;", UOE);
        for (String op : new String[] {"<", "<=", ">", ">="}) {
            reads(V + "SPEC n " + op + " f;", 1);
            reads(V + "SPEC (n " + op + " f) = 1;", UOE);
            for (String bad : new String[] {"x", "s"}) {
                reads(V + "SPEC n " + op + " " + bad + ";", UOE);
                reads(V + "SPEC " + bad + " " + op + " " + bad + ";", UOE);
            }
        }
        sentence = "= != in take two of one SORT";
        String[] one = {"x", "n", "s"};
        String[] other = {"TRUE", "7", "green"};
        for (int a = 0; a < 3; a++) {
            for (int b = 0; b < 3; b++) {
                Object want = a == b ? (Object) 1 : UOE;
                reads(V + "SPEC " + one[a] + " = " + other[b] + ";", want);
                reads(V + "SPEC " + other[b] + " != " + one[a] + ";", want);
                reads(V + "SPEC " + one[a] + " in {" + other[a] + ", " + other[b] + "};", want);
                reads(V + "SPEC " + one[a] + " in {" + other[b] + "};", want);
                sentence = "case: truth before :, all behind : of one SORT";
                reads(V + "SPEC case x : " + one[a] + "; TRUE : " + other[b] + "; esac = " + one[a] + ";", want);
                reads(V + "SPEC case " + one[a] + " : TRUE; esac;", a == 0 ? (Object) 1 : UOE);
                sentence = "CHOICE: of the SORT of the NAME";
                for (String form : new String[] {"#", "{#}", "{%, #}", "case x : #; esac", "case x : {%}; TRUE : {%, #}; esac", "case x : case y : #; esac; esac"}) {
                    String choice = form.replace("#", other[b]).replace("%", one[a]);
                    Object fit = a == b ? (Object) 0 : UOE;
                    reads(V + "ASSIGN " + one[a] + " := " + choice + ";", fit);
                    reads(V + "ASSIGN init(" + one[a] + ") := " + choice + ";", fit);
                    reads(V + "ASSIGN next(" + one[a] + ") := " + choice + ";", fit);
                }
                sentence = "= != in take two of one SORT";
            }
        }
        reads(V + "ASSIGN x := case n : x; esac;", UOE);
        sentence = "INIT, INVAR, TRANS, FAIRNESS, SPEC: truth";
        for (String kind : new String[] {"INIT", "INVAR", "TRANS", "FAIRNESS", "SPEC"}) {
            reads(V + kind + " x;", kind.equals("SPEC") ? 1 : 0);
            reads(V + kind + " n;", UOE);
            reads(V + kind + " s;", UOE);
        }
        sentence = "What stands in an E is looked at in ENTRIES alone";
        reads(V + "DEFINE unused := 1 + TRUE;", UOE);
        reads("MODULE main VAR i : a(1 + TRUE); MODULE a(unused)", UOE);
        reads("MODULE main VAR i : a; MODULE a INIT 1;", UOE);
        reads("MODULE main MODULE a INIT 1;", 0);
    }

    /** DEFINES e0 .. of truth and f0 .. of numbers; e as well as f with number k has HEIGHT k + 1. */
    private static String high(int n) {
        StringBuilder all = new StringBuilder("MODULE a(p) DEFINE d := p; MODULE main VAR x : boolean; n : 0 .. 3; DEFINE e0 := x; f0 := n; ");
        for (int k = 1; k <= n; k++) {
            all.append("e" + k + " := e" + (k - 1) + "; f" + k + " := ((f" + (k - 1) + ")); ");
        }
        return all.toString();
    }

    /** A form in which e (or f) of one number is 120 high, and that of the next is too high. */
    private static void isHighest(String form, int k) {
        boolean spec = form.startsWith("SPEC");
        reads(high(k) + form.replace("#", Integer.toString(k)), spec ? 1 : 0);
        reads(high(k + 1) + form.replace("#", Integer.toString(k + 1)), IOB);
    }

    private static void heights() {
        sentence = "HEIGHT of an E (or CHOICE): at most 120";
        reads(high(119), 0);
        reads(high(120), IOB);
        reads("MODULE main SPEC " + times("!", 119) + "TRUE;", 1);
        reads("MODULE main SPEC " + times("!", 120) + "TRUE;", IOB);
        reads("MODULE main SPEC " + times("- ", 118) + "1 = 1;", 1);
        reads("MODULE main SPEC " + times("- ", 119) + "1 = 1;", IOB);
        reads("MODULE main VAR x : boolean; SPEC " + times("EX ", 119) + "x;", 1);
        reads("MODULE main VAR x : boolean; SPEC " + times("AG ", 120) + "x;", IOB);
        sentence = "that of what a NAME stands for being a part";
        for (String form : new String[] {"SPEC e#;", "INIT e#;", "INVAR e#;", "TRANS e#;", "FAIRNESS e#;", "ASSIGN x := e#;", "ASSIGN init(x) := e#;",
            "ASSIGN next(n) := f#;", "DEFINE g := e#;"}) {
            isHighest(form, 118);
        }
        // p is one higher than what is given, and d one higher than p.
        isHighest("VAR i : a(e#);", 117);
        isHighest("VAR i : a(e#); INIT i.d;", 116);
        sentence = "( ) add nothing; else 1 and that of its highest part";
        isHighest("SPEC ((((e#))));", 118);
        for (String form : new String[] {"!e#", "e# -> TRUE", "TRUE -> e#", "TRUE & e#",
            "e# = TRUE", "TRUE != e#", "f# < 1", "1 >= f#", "e# in {TRUE}", "TRUE in {e#}", "TRUE in {TRUE, e#, TRUE}", "case e# : TRUE; esac",
            "case TRUE : e#; esac", "case TRUE : TRUE; x : TRUE; e# : FALSE; esac", "EX e#", "EF e#", "EG e#", "AX e#", "AF e#", "AG e#", "E [ e# U x ]",
            "E [ x U e# ]", "A [ e# U x ]", "A [ x U e# ]", "e# <-> x", "e# | x", "x xor e#", "e# & x"}) {
            isHighest("SPEC " + form + ";", 117);
        }
        for (String form : new String[] {"- f# = 1", "f# + 1 = 1", "1 - f# < 1", "f# * 2 = 1", "1 / f# = 1", "1 mod f# = 1"}) {
            isHighest("SPEC " + form + ";", 116);
        }
        isHighest("SPEC TRUE -> TRUE -> e#;", 116);
        isHighest("ASSIGN x := {e#};", 117);
        isHighest("ASSIGN x := {x, x, e#};", 117);
        isHighest("ASSIGN x := case x : e#; esac;", 117);
        isHighest("ASSIGN x := case e# : x; esac;", 117);
        isHighest("ASSIGN x := case TRUE : x; x : {e#}; esac;", 116);
        isHighest("ASSIGN x := case TRUE : case TRUE : e#; esac; esac;", 116);
        sentence = "of a chain of one or more of {} in the grammar: 1 and that of its highest one";
        isHighest("SPEC " + times("x & ", 200) + "e#;", 117);
        isHighest("SPEC e#" + times(" & x", 200) + ";", 117);
        isHighest("SPEC x" + times(" | x xor x", 150) + " | e#" + times(" xor x", 3) + ";", 117);
        isHighest("SPEC x" + times(" <-> x", 300) + " <-> e# <-> x;", 117);
        isHighest("SPEC n" + times(" + n - n", 150) + " - f# + n = 1;", 116);
        isHighest("SPEC n" + times(" * n / n mod n", 100) + " mod f# * n = 1;", 116);
        // A chain of one kind inside one of another is one more.
        isHighest("SPEC x & x | x & e# | x;", 116);
        isHighest("SPEC x | x <-> x | e#;", 116);
        isHighest("SPEC n + n * n * f# - n = 1;", 115);
        reads("MODULE main VAR x : boolean; SPEC " + times("x -> ", 119) + "x;", 1);
        reads("MODULE main VAR x : boolean; SPEC " + times("x -> ", 120) + "x;", IOB);
        sentence = "1 for TRUE, FALSE, a NUMBER, next, and a NAME that is a VARIABLE or SYMBOL";
        String leaves = "MODULE b VAR y : boolean; MODULE main VAR x : boolean; s : {red}; i : b; TRANS " + times("!", 118);
        for (String leaf : new String[] {"TRUE", "FALSE", "next(x)", "x", "next(i.y)", "i.y"}) {
            reads(leaves + "!" + leaf + ";", 0);
            reads(leaves + "!!" + leaf + ";", IOB);
        }
        for (String leaf : new String[] {"1", "red", "s", "next(s)"}) {
            reads(leaves + leaf + " = " + leaf + ";", 0);
            reads(leaves + "!" + leaf + " = " + leaf + ";", IOB);
        }
    }

    private static void limits() {
        sentence = "more than 200 INSTANCES (with main): IndexOutOfBoundsException";
        reads("MODULE a MODULE main VAR " + many("i# : a; ", 199), 0);
        reads("MODULE a MODULE main VAR " + many("i# : a; ", 200), IOB);
        reads("MODULE a MODULE b VAR x : a; y : a; MODULE main VAR " + many("i# : b; ", 66) + "j : a;", 0);
        reads("MODULE a MODULE b VAR x : a; y : a; MODULE main VAR " + many("i# : b; ", 66) + "j : a; k : a;", IOB);
        StringBuilder tower = new StringBuilder("MODULE main VAR a : m0; b : m0; ");
        for (int k = 0; k < 70; k++) {
            tower.append("MODULE m" + k + " VAR a : m" + (k + 1) + "; b : m" + (k + 1) + "; ");
        }
        reads(tower + "MODULE m70", IOB);
        sentence = "or 4000 ENTRIES: IndexOutOfBoundsException";
        // 199 times 19 and the VAR itself, two VARS and 17 more: 3999.
        String head = "MODULE a " + times("INIT TRUE;", 19) + " MODULE main VAR w : boolean; v : boolean; " + many("i# : a; ", 199) + times("INIT TRUE;", 17);
        String[][] kinds = {{"VAR q : boolean;", "r : boolean;"}, {"DEFINE q := 1;", "r := 1;"}, {"ASSIGN init(w) := w;", "init(v) := v;"},
            {"ASSIGN next(w) := w;", "next(v) := v;"}, {"ASSIGN w := w;", "v := v;"}, {"INIT TRUE;", "INIT TRUE;"}, {"INVAR TRUE;", "INVAR TRUE;"},
            {"TRANS TRUE;", "TRANS TRUE;"}, {"FAIRNESS TRUE;", "FAIRNESS TRUE;"}, {"SPEC TRUE;", "SPEC TRUE;"}};
        reads(head, 0);
        for (String[] kind : kinds) {
            reads(head + kind[0], kind[0].startsWith("SPEC") ? 1 : 0);
            reads(head + kind[0] + kind[1], IOB);
        }
        String lines = "VAR v : boolean; DEFINE d := 1; e := 1; ASSIGN init(v) := v; next(v) := v; ";
        reads("MODULE c " + lines + "MODULE a VAR k : {1}; DEFINE d := 1; ASSIGN next(k) := 1; " + times("INIT TRUE;", 16) + " MODULE main " + lines
                + "VAR " + many("i# : a; ", 199) + times("INIT TRUE;", 15), 0);
        reads("MODULE c " + lines + "MODULE a VAR k : {1}; DEFINE d := 1; ASSIGN next(k) := 1; " + times("INIT TRUE;", 16) + " MODULE main " + lines
                + "VAR " + many("i# : a; ", 199) + times("INIT TRUE;", 16), IOB);
        String given = head.replace("i198 : a; ", "") + times("INIT TRUE;", 19);
        reads("MODULE b(p) " + given + "VAR j : b(1);", 0);
        reads("MODULE b(p, q) " + given + "VAR j : b(1, 2);", IOB);
        reads("MODULE b(p) " + given + "VAR j : b;", UOE);

        sentence = "BITS of a VARIABLE: as few as can tell its VALUES apart (0 for one); at most 14 together";
        int[][] bits = {{1, 0}, {2, 1}, {3, 2}, {4, 2}, {5, 3}, {8, 3}, {9, 4}, {16, 4}, {17, 5}, {8192, 13}, {8193, 14}, {16384, 14}};
        for (int[] pair : bits) {
            PathProver x = Tapes.of("MODULE main VAR x : -3 .. " + (pair[0] - 4) + ";");
            due(pair[0] + " VALUES", pair[1], () -> x.count(1));
        }
        reads("MODULE main VAR x : -8192 .. 8191;", 0);
        reads("MODULE main VAR x : -8192 .. 8192;", IOB);
        reads("MODULE main VAR x : -32767 .. 32767;", IOB);
        reads("MODULE main VAR " + many("x# : boolean; ", 14) + many("y# : {7}; ", 100), 0);
        reads("MODULE main VAR " + many("x# : boolean; ", 15), IOB);
        reads("MODULE main VAR " + many("x# : {q, r, t}; ", 7), 0);
        reads("MODULE main VAR " + many("x# : {q, r, t}; ", 7) + "y : boolean;", IOB);
        reads("MODULE a VAR x : 0 .. 127; MODULE main VAR i : a; j : a;", 0);
        reads("MODULE a VAR x : 0 .. 127; MODULE main VAR i : a; j : a; k : boolean;", IOB);
    }

    /** Texts with one fault each, in the order in which read looks for them. */
    private static void order() {
        sentence = "In this order: SYNTAX; .. by all but what stands in E; .. INSTANCES or ENTRIES; .. a NAME in an E;"
                + " .. HEIGHT; .. not SOUND otherwise; .. BITS";
        String[] parts = {"SPEC ; ", "VAR z : 2 .. 1; ", times("INIT TRUE; ", 4001), "SPEC nowhere; ", "SPEC " + times("!", 130) + "TRUE; ", "SPEC 1; ",
            "VAR y : 0 .. 16384; "};
        Object[] want = {IAE, UOE, IOB, UOE, IOB, UOE, IOB};
        for (int a = 0; a < parts.length; a++) {
            for (int b = a; b < parts.length; b++) {
                PathProver x = new PathProver();
                Tapes.feed(x, "MODULE main " + (a == b ? parts[a] : parts[b] + parts[a]));
                due("read of faults " + a + " and " + b, want[a], x::read);
                due("place of faults " + a + " and " + b, a == 0 ? (a == b ? 17 : 17 + parts[b].length()) : -1, x::place);
            }
        }
        PathProver self = new PathProver();
        Tapes.feed(self, "MODULE main DEFINE d := d; SPEC " + times("!", 130) + "TRUE;");
        due("an E that contains itself comes before HEIGHT", UOE, self::read);
    }

    private static void whatStays() {
        String before = "MODULE main VAR x : {5, 6, 7}; ASSIGN init(x) := 5; next(x) := {6, 7}; FAIRNESS x = 7; SPEC EF x = 7; SPEC EG x > 5;";
        String[] bad = {"MODULE main SPEC ;", "", "MODULE a VAR t : {s, t};", "MODULE main VAR i : main;", "MODULE main SPEC nowhere;",
            "MODULE main " + times("INIT TRUE;", 4001), "MODULE main SPEC " + times("!", 130) + "TRUE;", "MODULE main VAR x : {6, 5}; SPEC x;",
            "MODULE main VAR x : 0 .. 30000; SPEC x = 1; FAIRNESS x = 2;"};
        Object[] want = {IAE, IAE, UOE, UOE, UOE, IOB, IOB, UOE, IOB};
        for (int late = 0; late < 2; late++) {
            for (int k = 0; k < bad.length; k++) {
                PathProver x = Tapes.of(before);
                if (late == 1) {
                    x.show(0);
                    x.pick(1);
                }
                Tapes.feed(x, bad[k]);
                sentence = "In each of these cases the MODEL before stays";
                due("read " + k, want[k], x::read);
                due("SPECS", 2, () -> x.count(3));
                due("SHOWN", late == 1 ? 2 : 0, () -> x.count(5));
                due("CURRENT", late, () -> x.count(7));
                due("value", late == 1 ? (Object) 7 : UOE, () -> x.value(0));
                due("step", late == 1 ? (Object) 2 : UOE, () -> x.step(1));
                due("check", true, () -> x.check(0));
                due("check", false, () -> x.check(1));
                due("states", 1, () -> x.states(1, 0));
                due("show", 2, () -> x.show(0));
                due("pick", 2, () -> x.pick(1));
                due("value", 7, () -> x.value(0));
                sentence = "The TAPE is read as a TEXT, and empty then";
                due("end(1) after read " + k, IAE, () -> x.end(1));
                due("feed after read " + k, 20, () -> x.feed(0x2D2D2020, 0x20202020, 0x20202020, 0x20202020, 0x20202020));
            }
        }
        sentence = "Else it is the MODEL; nothing is CURRENT, nothing SHOWN";
        PathProver x = Tapes.of(before);
        x.show(0);
        x.pick(0);
        Tapes.feed(x, "MODULE main VAR y : 1 .. 2; SPEC EG y = 1;");
        due("read", 1, x::read);
        due("end(1)", IAE, () -> x.end(1));
        due("SHOWN", 0, () -> x.count(5));
        due("LOOP", -1, () -> x.count(6));
        due("CURRENT", 0, () -> x.count(7));
        due("pick", IOB, () -> x.pick(0));
        due("value", UOE, () -> x.value(0));
        due("FAIRNESS", 0, () -> x.count(4));
        due("states", 1, () -> x.states(5, 0));
        due("show", 2, () -> x.show(0));
        due("LOOP", 0, () -> x.count(6));
        sentence = "Answers how many SPECS it has";
        reads("MODULE main", 0);
        reads("MODULE main" + times(" SPEC TRUE;", 300), 300);
        reads("MODULE a SPEC TRUE; SPEC FALSE; MODULE b SPEC TRUE; MODULE main VAR i : a; j : a; SPEC TRUE;", 5);
    }

    /** Texts that have nothing in common, read by one object again and again. */
    private static void manyReads() {
        sentence = "Else it is the MODEL; nothing is CURRENT, nothing SHOWN";
        PathProver x = new PathProver();
        for (int round = 0; round < 4; round++) {
            Tapes.feed(x, "MODULE main VAR s : {u, v, w}; i : a(s); FAIRNESS s = v; SPEC EX case FALSE : w; esac = u; SPEC s = v; MODULE a(p) DEFINE d := p; FAIRNESS TRUE; SPEC d = w;");
            due("read", 3, x::read);
            told(x, 1, 2, 2, 3, 2, 0, -1, 0);
            due("first SYMBOL", 3, () -> x.states(5, 1));
            due("an INSTANCE's SPEC", 1, () -> x.states(5, 0));
            due("show", 2, () -> x.show(1));
            due("pick", 3, () -> x.pick(1));
            due("read of an empty TAPE", IAE, x::read);
            told(x, 1, 2, 2, 3, 2, 2, -1, 1);
            Tapes.feed(x, "MODULE main");
            due("read", 0, x::read);
            told(x, 0, 0, 1, 0, 0, 0, -1, 0);
            due("states", 1, () -> x.states(3, 0));
            Tapes.feed(x, "MODULE main VAR x : 0 .. 99; y : boolean; INIT x = 7; INVAR x > 6; TRANS next(x) = x + 1; ASSIGN y := TRUE; SPEC x = 8; SPEC EF x = 8;");
            due("read", 2, x::read);
            told(x, 2, 8, 1, 2, 0, 0, -1, 0);
            due("all", 93, () -> x.states(0, 0));
            due("INITIAL", 1, () -> x.states(1, 0));
            due("that GO to none", 1, () -> x.states(4, 0));
            due("with the SPEC", 1, () -> x.states(5, 0));
            due("without a PATH", 0, () -> x.states(5, 1));
            Tapes.feed(x, "MODULE main VAR z : 5 .. 6; w : {5, 4}; ASSIGN init(z) := 5; next(z) := w; next(w) := {z, 4}; SPEC EG TRUE; SPEC EX w = 4;");
            due("read", 2, x::read);
            told(x, 2, 2, 1, 2, 0, 0, -1, 0);
            due("show", 2, () -> x.show(0));
            due("pick", 2, () -> x.pick(0));
            due("value", 5, () -> x.value(0));
            due("value", 5, () -> x.value(1));
            due("states", 2, () -> x.states(2, 0));
        }
    }

    private static void told(PathProver x, int... want) {
        for (int what = 0; what < want.length; what++) {
            int w = what;
            due("count(" + what + ")", want[what], () -> x.count(w));
        }
    }

    private static void longNames() {
        sentence = "with . and more: what the last has that NAME as VAR or DEFINE in the INSTANCE that those before are";
        PathProver x = Tapes.of("MODULE c(p) VAR x : 0 .. 3; DEFINE d := x + p; MODULE b(q) VAR k : c(q); l : c(q + 1); DEFINE d := k.x; MODULE main VAR i : b(10); j : b(20);"
                + " INIT i.k.x = 0 & i.l.x = 1 & j.k.x = 2 & j.l.x = 3;"
                + " SPEC i.k.x = 0; SPEC i.l.x = 1; SPEC j.k.x = 2; SPEC j.l.x = 3; SPEC i.k.d = 10; SPEC i.l.d = 12; SPEC j.k.d = 22; SPEC j.l.d = 24; SPEC i.d = 0; SPEC j.d = 2;");
        for (int spec = 0; spec < 10; spec++) {
            int i = spec;
            due("check(" + spec + ")", true, () -> x.check(i));
            due("states(5, " + spec + ")", 64, () -> x.states(5, i));
        }
        due("first(0)", 256, () -> x.first(0));
        for (int v = 0; v < 4; v++) {
            int i = v;
            due("value(" + v + ")", v, () -> x.value(i));
        }
        PathProver y = Tapes.of("MODULE c VAR x : 0 .. 3; MODULE b VAR k : c; l : c; MODULE main VAR i : b; j : b; INIT i.k.x = 0 & i.l.x = 0 & j.k.x = 0 & j.l.x = 0;"
                + " TRANS next(i.k.x) = 3 & next(i.l.x) = 1 & next(j.k.x) = i.l.x + 2 & next(j.l.x) = j.k.x;");
        due("first(0)", 1, () -> y.first(0));
        due("step(0)", 1, () -> y.step(0));
        int[] want = {3, 1, 2, 0};
        for (int v = 0; v < 4; v++) {
            int i = v;
            due("value(" + v + ") after next", want[v], () -> y.value(i));
        }
    }

    private static void places() {
        sentence = "The PLACE of the latest read, -1 if it was no SYNTAX, or before";
        PathProver x = new PathProver();
        due("before", -1, x::place);
        Tapes.feed(x, "MODULE main SPEC TRUE");
        due("before read", -1, x::place);
        due("read", IAE, x::read);
        due("SYNTAX", 21, x::place);
        due("SYNTAX again", 21, x::place);
        due("feed", 20, () -> x.feed(0, 0, 0, 0, 0));
        due("a refused end", IAE, () -> x.end(21));
        due("after feed", 21, x::place);
        x.end(0);
        String[] others = {"MODULE main", "MODULE a", "MODULE main SPEC nowhere;", "MODULE main VAR x : 0 .. 16384;"};
        Object[] want = {0, UOE, UOE, IOB};
        for (int k = 0; k < others.length; k++) {
            due("read of nothing", IAE, x::read);
            due("its place", 0, x::place);
            Tapes.feed(x, others[k]);
            due("read of " + others[k], want[k], x::read);
            due("its place", -1, x::place);
        }
    }

    public static void main(String[] args) {
        modules();
        types();
        names();
        sorts();
        heights();
        limits();
        order();
        whatStays();
        manyReads();
        longNames();
        places();
        finish();
    }
}
