/** Each sentence on a new object, the TAPE, TOKENS and TEXT that names a boundary, on both sides of it. */
public final class TextBoundaryTest extends Due {
    private static final String[] KEPT = {"MODULE", "VAR", "DEFINE", "ASSIGN", "INIT", "INVAR", "TRANS", "FAIRNESS", "SPEC",
        "init", "next", "boolean", "xor", "EX", "EF", "EG", "AX", "AF", "AG", "E", "A", "U", "in", "mod", "case", "esac",
        "TRUE", "FALSE"};

    private static void objects() {
        sentence = "An object is used for at most 512 calls after it has been made";
        PathProver x = new PathProver();
        Tapes.feed(x, "MODULE main VAR n : 0 .. 4; ASSIGN init(n) := 0; next(n) := (n + 1) mod 5; SPEC EF n = 4;");
        due("read", 1, x::read);
        x.first(0);
        for (int call = 8; call < 511; call++) {
            x.step(0);
        }
        due("the last but one call", 1, () -> x.step(0));
        due("the 512th call", 4, () -> x.value(0));

        sentence = "PathProver(): THE TAPE is empty, there is no MODEL";
        PathProver y = new PathProver();
        due("end(1)", IAE, () -> y.end(1));
        due("end(0)", 0, () -> y.end(0));
        due("place()", -1, y::place);
        for (int what = 0; what < 8; what++) {
            int w = what;
            due("count(" + what + ")", ISE, () -> y.count(w));
        }
        due("feed", 20, () -> y.feed(0, 0, 0, 0, 0));
    }

    private static void feeding() {
        sentence = "The 20 bytes of five ints, the highest of each first, come to the TAPE";
        PathProver x = new PathProver();
        // "MODULE main SPEC n", then a byte above 127, which is in no TOKEN, and a 0.
        due("feed", 20, () -> x.feed(0x4D4F4455, 0x4C45206D, 0x61696E20, 0x53504543, 0x206EFF00));
        due("read", IAE, x::read);
        due("place", 18, x::place);
        due("feed", 20, () -> x.feed(0x4D4F4455, 0x4C45206D, 0x61696E20, 0x53504543, 0x2831293B));
        due("read", UOE, x::read);
        due("feed", 20, () -> x.feed(0x80000000, -1, Integer.MIN_VALUE, Integer.MAX_VALUE, 0));
        due("feed", 40, () -> x.feed(0, 0, 0, 0, 0));

        sentence = "it would have more than 65536: IndexOutOfBoundsException";
        PathProver full = new PathProver();
        for (int i = 0; i < 3276; i++) {
            full.feed(0x20202020, 0x20202020, 0x20202020, 0x20202020, 0x20202020);
        }
        due("feed to 65540", IOB, () -> full.feed(1, 2, 3, 4, 5));
        due("nothing has come to it", IAE, () -> full.end(65521));
        due("end(65516)", 65516, () -> full.end(65516));
        due("feed to 65536", 65536, () -> full.feed(0x20202020, 0x20202020, 0x20202020, 0x20202020, 0x20202020));
        due("feed to a full TAPE", IOB, () -> full.feed(1, 2, 3, 4, 5));
        due("read of a full TAPE", IAE, full::read);
        due("its length", 65536, full::place);
        due("feed to the empty TAPE", 20, () -> full.feed(1, 2, 3, 4, 5));

        sentence = "The TAPE keeps its first n bytes, n 0 .. its length";
        PathProver y = new PathProver();
        Tapes.feed(y, "MODULE main SPEC x; ");
        due("end(-1)", IAE, () -> y.end(-1));
        due("end(MIN)", IAE, () -> y.end(Integer.MIN_VALUE));
        due("end(21)", IAE, () -> y.end(21));
        due("end(MAX)", IAE, () -> y.end(Integer.MAX_VALUE));
        due("end(20)", 20, () -> y.end(20));
        due("end(11)", 11, () -> y.end(11));
        due("end(12)", IAE, () -> y.end(12));
        due("the first bytes were kept", 0, y::read);
        due("end(0)", 0, () -> y.end(0));
        due("read of nothing", IAE, y::read);
        due("place of nothing", 0, y::place);
    }

    /** What is behind the end of the TAPE, from what was fed before, is none of it. */
    private static void cut(String fed, int keep, Object want, int place) {
        PathProver x = new PathProver();
        Tapes.feed(x, fed);
        due("end(" + keep + ") of " + fed, keep, () -> x.end(keep));
        due("read of the first " + keep + " bytes of " + fed, want, x::read);
        due("place then", place, x::place);
    }

    private static void cuts() {
        sentence = "The TAPE keeps its first n bytes";
        cut("MODULE mainx", 11, 0, -1);
        cut("MODULE main--", 12, IAE, 11);
        cut("MODULE main SPEC 32768", 21, IAE, 21);
        cut("MODULE main VAR x :=", 19, IAE, 19);
        cut("MODULE main VAR x : 0..1;", 22, IAE, 21);
        cut("MODULE main SPEC 1 <-> 1;", 21, IAE, 21);
        cut("MODULE main SPEC 1 <-> 1;", 20, IAE, 20);
        cut("MODULE main SPEC 1 -> 1;", 20, IAE, 20);
        cut("MODULE main SPEC TRUE; SPEC FALSE;", 22, 1, -1);
        cut("MODULE main SPEC TRUE; SPEC FALSE;", 23, 1, -1);
        cut("MODULE main SPEC TRUE; SPEC FALSE;", 24, IAE, 23);
    }

    private static void blanks() {
        sentence = "Blanks are the bytes 9, 10, 13, 32";
        for (int b = 0; b < 256; b++) {
            boolean blank = b == 9 || b == 10 || b == 13 || b == 32;
            String text = "MODULE" + (char) b + "main";
            if (blank) {
                reads(text, 0);
            } else {
                boolean inWord = b == '_' || b >= '0' && b <= '9' || b >= 'a' && b <= 'z' || b >= 'A' && b <= 'Z';
                breaksAt(text, inWord ? 0 : 6);
            }
        }
        sentence = "-- and all up to the next 10 or the end is one";
        reads("--\nMODULE main", 0);
        breaks("--|");
        reads("MODULE main--", 0);
        reads("MODULE main -- SPEC 1 \r \u0000 \u00ff", 0);
        reads("MODULE--x\nmain--y\nSPEC--z\nTRUE;", 1);
        reads("MODULE main SPEC 1--2\n=1;", 1);
        breaks("MODULE main SPEC 1 -- a \r = 1;|");
        breaks("MODULE main SPEC 1 - -|;");
        breaks("MODULE main SPEC TRUE <-->TRUE;|");
    }

    private static void words() {
        sentence = "WORD: a letter or _, then letters, digits and _ as many as follow";
        for (String name : new String[] {"_", "__", "_9", "a", "Z", "z9_Z", "main", "true", "True", "Next", "e", "a1", "u", times("x", 900)}) {
            reads("MODULE main VAR " + name + " : boolean; SPEC " + name + ";", 1);
        }
        breaks("MODULE main VAR |9a : boolean;");
        breaks("MODULE main VAR a|-b : boolean;");
        breaks("MODULE main VAR a|$ : boolean;");
        reads("MODULE main VAR a : boolean; aa : boolean; B : boolean; b : boolean; a_ : boolean; a0 : boolean;", 0);

        sentence = "Words in \" here, and TRUE, FALSE, are KEPT; other WORDS are NAMES";
        for (String kept : KEPT) {
            breaks("MODULE main VAR x : {|" + kept + "};");
            breaks("MODULE |" + kept);
            reads("MODULE main VAR " + kept + "_ : boolean; x" + kept + " : boolean;", 0);
        }
    }

    private static void numbers() {
        sentence = "NUMBER: digits, as many as follow, at most 32767 (a greater one is no TOKEN: its first byte is in none)";
        reads("MODULE main SPEC 32767 = 0000000000000000000000032767;", 1);
        breaks("MODULE main SPEC |32768 = 1;");
        breaks("MODULE main SPEC 1 = |0032768;");
        breaks("MODULE main SPEC 1 = |4294967297;");
        breaks("MODULE main SPEC 1 = |18446744073709551617;");
        breaks("MODULE main SPEC 1 = |" + times("9", 400) + ";");
        breaks("MODULE main VAR x : {-|32768};");
        breaks("MODULE main VAR x : 0 .. |32768;");
        reads("MODULE main VAR x : 32767 .. 32767; y : -32767 .. -32767; z : {-32767, 32767};", 0);
        breaks("MODULE main SPEC 12|a = 1;");
        isTrue("-32767 - 1 < -32767");

        sentence = "SIGNS, the longest that fits";
        isTrue("1<-1<->FALSE");
        isTrue("2!=3");
        isTrue("n<=5&n>=-2");
        isTrue("x->x");
        reads("MODULE main VAR x:0..3;", 0);
        breaks("MODULE main VAR x:0|.3;");
        breaks("MODULE main VAR x:0..|.3;");
        breaks("MODULE main DEFINE x |: = 3;");
        breaks("MODULE main SPEC 1 <= |= 3;");
        breaks("MODULE main SPEC 1 |! = 3;");
        breaks("MODULE main SPEC 1 <- |> 3;");
        breaks("MODULE main SPEC case TRUE |:= 1; esac = 1;");
        breaks("MODULE main SPEC 1 |@ 2;");
        breaks("MODULE main SPEC 1 |% 2;");
        breaks("MODULE main SPEC 1 |\u00df 2;");
    }

    private static void grammar() {
        sentence = "MODULE, one or more, up to the end";
        breaksAt("", 0);
        breaksAt("   ", 3);
        breaksAt("-- nothing\n", 11);
        breaks("|VAR x : boolean;");
        reads("MODULE main", 0);
        reads("MODULE main MODULE a", 0);
        breaks("MODULE main |main");
        breaks("MODULE main |;");
        breaks("MODULE |");
        breaks("MODULE main(|)");
        breaks("MODULE main(a,|)");
        breaks("MODULE main(a |b)");
        breaks("MODULE main(a|");
        breaks("MODULE main(|MODULE a");
        breaks("MODULE main(a, |SPEC TRUE;");
        breaks("MODULE main(|1)");

        sentence = "\"VAR\" {NAME : TYPE ;} | \"DEFINE\" {NAME := E ;} | \"ASSIGN\" {..}";
        reads("MODULE main VAR DEFINE ASSIGN VAR", 0);
        reads("MODULE main VAR ASSIGN SPEC TRUE; VAR x : boolean; DEFINE", 1);
        breaks("MODULE main VAR x|;");
        breaks("MODULE main VAR x : |;");
        breaks("MODULE main VAR x : boolean|");
        breaks("MODULE main DEFINE d := |;");
        breaks("MODULE main DEFINE d |= 1;");
        breaks("MODULE main ASSIGN INIT (x) |:= 1;");
        breaks("MODULE main ASSIGN x|.y := 1;");
        breaks("MODULE main ASSIGN init(x|.y) := 1;");
        breaks("MODULE main ASSIGN next |x := 1;");
        breaks("MODULE main SPEC |;");
        breaks("MODULE main INIT |");
        breaks("MODULE main INVAR TRUE|");
        breaks("MODULE main FAIRNESS TRUE |TRUE;");

        sentence = "TYPE: \"boolean\" | { VALUE {, VALUE} } | N .. N | NAME [ ( E {, E} ) ]";
        breaks("MODULE main VAR x : {|};");
        breaks("MODULE main VAR x : {1,|};");
        breaks("MODULE main VAR x : {|;");
        breaks("MODULE main VAR x : {1, |;");
        breaks("MODULE main VAR x : {-|;");
        breaks("MODULE main VAR x : {1|;");
        breaks("MODULE main VAR x : {- |a};");
        breaks("MODULE main VAR x : {- |- 1};");
        breaks("MODULE main VAR x : {|TRUE};");
        breaks("MODULE main VAR x : 1 .. |a;");
        breaks("MODULE main VAR x : 1|;");
        breaks("MODULE main VAR x : - |- 1 .. 1;");
        breaks("MODULE main VAR i : m(|);");
        breaks("MODULE main VAR i : m(1,|);");
        breaks("MODULE main VAR i : m(1|;");
        breaks("MODULE main VAR i : m|.n;");
        reads("MODULE main VAR x : - 3 .. - 1; y : { - 1 , 2 };", 0);
    }

    private static void expressions() {
        sentence = "R: S [(= | != | < | <= | > | >=) S | \"in\" { E {, E} }]";
        breaks("MODULE main SPEC 1 = 1 |= 1;");
        breaks("MODULE main SPEC 1 < 1 |in {TRUE};");
        breaks("MODULE main SPEC 1 in {1} |in {TRUE};");
        breaks("MODULE main SPEC 1 in {|};");
        breaks("MODULE main SPEC 1 in |1;");
        breaks("MODULE main SPEC 1 = |!TRUE;");
        breaks("MODULE main SPEC 1 + |!TRUE;");
        breaks("MODULE main SPEC - |!TRUE;");
        breaks("MODULE main SPEC TRUE = |EX TRUE;");
        isTrue("! 1 = 2");
        isTrue("(! TRUE) = FALSE");
        isTrue("2 + 1 in {1 + 2}");
        isTrue("- 1 + 2 = 1");

        sentence = "P: ! P | (\"EX\" ..) P | (\"E\" | \"A\") [ E \"U\" E ] | R";
        breaks("MODULE main SPEC E |TRUE;");
        breaks("MODULE main SPEC E [ TRUE |];");
        breaks("MODULE main SPEC A [ TRUE U |];");
        breaks("MODULE main SPEC A [ TRUE U TRUE |U TRUE ];");
        breaks("MODULE main SPEC A [ TRUE U TRUE |;");
        breaks("MODULE main SPEC E [ TRUE U TRUE ] |+ 1;");
        breaks("MODULE main SPEC EX |;");
        breaks("MODULE main SPEC TRUE |U TRUE;");
        reads("MODULE main SPEC ! EX ! EG E [ TRUE U A [ FALSE U TRUE ] ] & AX AF AG TRUE;", 1);

        sentence = "\"case\" {E : E ;} \"esac\" (one or more)";
        breaks("MODULE main SPEC case |esac;");
        breaks("MODULE main SPEC case TRUE : TRUE |esac;");
        breaks("MODULE main SPEC case TRUE |; esac;");
        breaks("MODULE main SPEC case TRUE : TRUE; |;");
        breaks("MODULE main VAR x : 0 .. 1; ASSIGN x := case |esac;");
        breaks("MODULE main SPEC (|);");
        breaks("MODULE main SPEC (TRUE|;");
        breaks("MODULE main SPEC x.|;");
        breaks("MODULE main TRANS next(|1);");
        breaks("MODULE main TRANS next(x|+ 1);");
        breaks("MODULE main TRANS next |x;");

        sentence = "CHOICE: { E {, E} } | \"case\" .. | E that does not begin with \"case\"";
        String v = "MODULE main VAR x : 0 .. 3; ASSIGN x := ";
        reads(v + "{1};", 0);
        breaks(v + "{|};");
        breaks(v + "{1,|};");
        breaks(v + "{1} |+ 1;");
        breaks(v + "case TRUE : 1; esac |+ 1;");
        breaks(v + "1 + |{1};");
        breaks(v + "{ |{1} };");
        breaks(v + "(|{1});");
        reads(v + "1 + case TRUE : 1; esac;", 0);
        reads(v + "case TRUE : {1, 2}; TRUE : case FALSE : 1; esac; esac;", 0);
        breaks("MODULE main SPEC 1 = |{1};");
        breaks("MODULE main SPEC case TRUE : |{1}; esac = 1;");

        sentence = "Chains of the grammar are reckoned from the left";
        for (String e : new String[] {"10 - 3 - 2 = 5", "100 / 5 / 2 = 10", "100 / 5 * 2 = 40", "17 mod 7 * 3 = 9", "2 - 3 + 4 = 3",
            "!(TRUE | TRUE xor TRUE)", "TRUE xor TRUE | TRUE", "FALSE & FALSE | TRUE", "TRUE | TRUE & FALSE", "FALSE -> FALSE -> FALSE",
            "!((FALSE -> FALSE) -> FALSE)", "TRUE <-> FALSE <-> FALSE", "FALSE -> TRUE <-> TRUE", "!(TRUE -> FALSE) | FALSE", "FALSE & TRUE xor TRUE",
            "1 + 2 * 3 = 7", "- 2 * 3 = -6", "!FALSE & FALSE = FALSE", "-7 mod 4 = -3", "- 7 + 8 = 1", "FALSE | TRUE -> TRUE"}) {
            isTrue(e);
        }
    }

    private static void nesting() {
        sentence = "At most 150 of these may be begun and not ended at a time: P, F, an E in ( ) or [ ], \"case\", CHOICE";
        String v = "MODULE main VAR x : boolean; n : 0 .. 3; SPEC ";
        // A P and an F for x itself; three for each ( ).
        reads(v + times("(", 49) + "!x" + times(")", 49) + ";", 1);
        breaks(v + times("(", 49) + "!!|x" + times(")", 49) + ";");
        breaks(v + times("(", 50) + "|x" + times(")", 50) + ";");
        breaksAt(v + times("(", 60) + "x;", v.length() + 50);
        breaks(v + times("!", 149) + "|x;");
        breaks(v + times("!", 150) + "|x;");
        breaks(v + times("!", 150) + "|!x;");
        breaks(v + times("EX ", 149) + "|x;");
        breaks(v + times("- ", 149) + "|n = 1;");
        breaks(v + times("- ", 149) + "|- n = 1;");
        // One P, and an F for each -, so HEIGHT is what is too much.
        reads(v + times("- ", 148) + "n = 1;", IOB);
        reads(v + times("!", 148) + "x;", IOB);
        // A P and an E for each [ ].
        reads(v + times("E [ ", 74) + "x" + times(" U x ]", 74) + ";", 1);
        breaks(v + times("E [ ", 75) + "|x" + times(" U x ]", 75) + ";");
        breaks(v + times("E [ ", 74) + "!|x" + times(" U x ]", 74) + ";");
        reads(v + times("A [ x U ", 74) + "x" + times(" ]", 74) + ";", 1);
        breaks(v + times("A [ x U ", 74) + "!|x" + times(" ]", 74) + ";");
        // A P, an F and a case for each case.
        reads(v + times("case ", 49) + "!x" + times(" : TRUE; esac", 49) + ";", 1);
        breaks(v + times("case ", 49) + "!!|x" + times(" : TRUE; esac", 49) + ";");
        breaks(v + times("case ", 50) + "|x" + times(" : TRUE; esac", 50) + ";");
        breaks(v + times("case x : ", 49) + "!!|x" + times("; esac", 49) + ";");
        // What is ended does not count.
        reads(v + times("(!!x) & ", 200) + times("(", 49) + "!x" + times(")", 49) + ";", 1);
        breaks(v + times("(", 49) + "x & !x & case |x : x; esac" + times(")", 49) + ";");
        reads(v + times("(", 48) + "x & !x & case x : x; esac" + times(")", 48) + ";", 1);
        reads(v + times("-n = n & ", 200) + times("(", 49) + "!x" + times(")", 49) + ";", 1);
        reads(v + times("E [ !x U !x ] & A [ x U x ] & ", 100) + times("(", 49) + "!x" + times(")", 49) + ";", 1);
        reads(v + times("case !x : !x; !x : !x; esac & ", 100) + times("(", 49) + "!x" + times(")", 49) + ";", 1);
        reads(v + times("-n in {-n, n} & ", 200) + times("(", 49) + "!x" + times(")", 49) + ";", 1);
        reads(v + "n in {" + times("(n), ", 100) + times("(", 49) + "n" + times(")", 49) + "};", 1);
        breaks(v + "n in {" + times("(n), ", 100) + times("(", 49) + "- |n" + times(")", 49) + "};");
        nestingOfChoices();
    }

    private static void nestingOfChoices() {
        String c = "MODULE main VAR n : 0 .. 3; ASSIGN n := ";
        reads(c + times("(", 49) + "n" + times(")", 49) + ";", 0);
        breaks(c + times("(", 49) + "-|n" + times(")", 49) + ";");
        reads(c + "{" + times("(", 49) + "n" + times(")", 49) + "};", 0);
        breaks(c + "{n, " + times("(", 49) + "-|n" + times(")", 49) + "};");
        reads(c + times("case TRUE : ", 73) + "- n" + times("; esac", 73) + ";", 0);
        breaks(c + times("case TRUE : ", 73) + "- - |n" + times("; esac", 73) + ";");
        breaks(c + times("case TRUE : ", 74) + "|n" + times("; esac", 74) + ";");
        breaks(c + times("case TRUE : ", 74) + "{|n}" + times("; esac", 74) + ";");
        breaks(c + times("case TRUE : ", 74) + "case |TRUE" + ";");
        reads(c + "case " + times("TRUE : {n, -n}; FALSE : -n; TRUE : case TRUE : {n}; esac; ", 200) + "TRUE : " + times("(", 48) + "n" + times(")", 48) + "; esac;", 0);
        reads(c + times("case TRUE : {n}; TRUE : case FALSE : n; esac; TRUE : ", 72) + "- - - n" + times("; esac", 72) + ";", 0);
        String g = "MODULE a(p) MODULE main VAR n : 0 .. 3; i : a(";
        reads(g + times("(", 49) + "n" + times(")", 49) + ");", 0);
        breaks(g + times("(", 49) + "-|n" + times(")", 49) + ");");
        String h = "MODULE a(p, q) MODULE main VAR n : 0 .. 3; i : a(n, ";
        reads(h + times("(", 49) + "n" + times(")", 49) + ");", 0);
        breaks(h + times("(", 49) + "-|n" + times(")", 49) + ");");
        sentence = "the TOKEN with which one more would begin is one with which it can't go on";
        breaks("MODULE main SPEC " + times("(", 50) + "|) ;");
        breaksAt("MODULE main SPEC " + times("(", 51) + "1;", "MODULE main SPEC ".length() + 50);
        PathProver x = new PathProver();
        Tapes.feed(x, "MODULE main SPEC " + times("(", 50) + "1;");
        due("read", IAE, x::read);
        Tapes.feed(x, "MODULE main SPEC " + times("(", 49) + "!TRUE" + times(")", 49) + ";");
        due("what a broken text had begun is not begun in the next", 1, x::read);
    }

    public static void main(String[] args) {
        objects();
        feeding();
        cuts();
        blanks();
        words();
        numbers();
        grammar();
        expressions();
        nesting();
        finish();
    }
}
