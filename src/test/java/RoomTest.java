import java.util.Map;
import java.util.TreeMap;

/**
 * All that a run of calls makes, kept or let go again, counted to the last element: by runs that were
 * too dear once and by the dearest that can be thought of, none of more than 512 calls.
 */
public final class RoomTest {
    private static final long ROOM = 7_300_000L;
    private static final long MOST_ELEMENTS = ROOM * 2 / 5;
    private static final long MOST_OBJECTS = 600_000L / 100;
    private static final int MOST_CALLS = 512;
    // What 508 calls of feed bring, so that end, read and two more calls are left.
    private static final int MOST_BYTES = 508 * 20;
    private static final Map<String, Long> MOST_AT = new TreeMap<>();
    private static int wrong = 0;
    private static int asked = 0;
    private static Counted x;

    private static void due(String what, Object got, Object want) {
        asked++;
        if (!want.equals(got)) {
            wrong++;
            System.out.println(what + " is " + got + ", due is " + want);
        }
    }

    private static void atMost(String what, long got, long most) {
        asked++;
        if (got > most) {
            wrong++;
            System.out.println(what + " is " + got + ", at most " + most + " is due");
        }
    }

    private static void begin() throws Exception {
        x = new Counted();
    }

    private static void end(String run) throws Exception {
        end(run, MOST_ELEMENTS);
    }

    private static void end(String run, long most) throws Exception {
        if (System.getenv("ROOM_TOLD") != null) {
            System.out.println(run + ": " + x.calls() + " calls, " + Made.arrays() + " arrays, " + Made.elements() + " elements");
        }
        Made.places().forEach((place, made) -> MOST_AT.merge(place, made, Math::max));
        long[] objects = x.objectsAndFields();
        atMost(run + ": calls", x.calls(), MOST_CALLS);
        atMost(run + ": objects and arrays", objects[0] + Made.arrays(), MOST_OBJECTS);
        atMost(run + ": fields and elements", objects[1] + Made.elements(), most);
    }

    /** A form, again and again, with the number of each in place of #, and a text between. */
    private static String many(String form, String between, int n) {
        StringBuilder all = new StringBuilder();
        for (int i = 0; i < n; i++) {
            all.append(i > 0 ? between : "").append(form.replace("#", Integer.toString(i)));
        }
        return all.toString();
    }

    /** A text as long as can be: a part again and again between a head and a tail. */
    private static String filled(String head, String part, String between, String tail) {
        int left = MOST_BYTES - head.length() - tail.length() - part.length();
        return head + many(part, between, 1 + left / (part.length() + between.length())) + tail;
    }

    /** So many VARS of a TYPE, with NAMES of one or two letters. */
    private static String vars(int n, String type) {
        String letters = "bcdfghjklnoqrstuvwyz";
        StringBuilder all = new StringBuilder();
        for (int i = 0; i < n; i++) {
            all.append(i < 20 ? "" : letters.charAt(i / 20 - 1)).append(letters.charAt(i % 20)).append(':').append(type).append(';');
        }
        return all.toString();
    }

    private static void counting() {
        String source = "int[] a = new int[b[1] + 2]; long[][] c = new long[7][]; d = Arrays.copyOf(d, 9); e = new byte[5];";
        due("a counted source", Counted.counting(source),
                "int[] a = Made.ofInt(b[1] + 2); long[][] c = Made.ofRows(7); d = Made.copyOf(d, 9); e = Made.ofByte(5);");
        Made.clear();
        Made.copyOf(Made.ofLong(100), 200);
        Made.ofRows(3);
        due("arrays counted", Made.arrays(), 3L);
        due("elements counted", Made.elements(), 303L);
        due("elements counted at their places", Made.places().values().stream().mapToLong(n -> n).sum(), 303L);
        due("a long text", filled("VAR ", "x", "&", ";").length(), MOST_BYTES);
        due("short NAMES", vars(22, "m"), "b:m;c:m;d:m;f:m;g:m;h:m;j:m;k:m;l:m;n:m;o:m;q:m;r:m;s:m;t:m;u:m;v:m;w:m;y:m;z:m;bb:m;bc:m;");
    }

    private static void newObject() throws Exception {
        begin();
        end("a new object", ROOM / 200);
    }

    private static void ordinary() throws Exception {
        begin();
        for (int i = 0; i < 20; i++) {
            due("read", x.read("MODULE main VAR n : 0 .. 4; b : boolean; ASSIGN init(n) := 0; next(n) := (n + 1) mod 5;"
                    + " FAIRNESS b; SPEC AF n = 4; SPEC EG b; SPEC EF (n = 3 & !b);"), 3);
            due("check", x.call("check", 0), true);
            due("show", x.call("show", 1), 5);
            due("show", x.call("show", 2), 4);
        }
        end("ordinary reads", ROOM / 100);
    }

    /** The sets of what next(x) can be, and the rows, are another one for nearly each STATE. */
    private static void threeHundredChoices() throws Exception {
        begin();
        due("read", x.read("MODULE main VAR x:0..16383; ASSIGN next(x) := {x," + many("x+#", ",", 300).substring(4)
                + "}; SPEC EF x=0;"), 1);
        due("check", x.call("check", 0), false);
        end("300 choices", ROOM / 10);
    }

    /** Every row for a STATE or a FAIRNESS would be made again for each of the larger MODELS. */
    private static void fairnessAgain() throws Exception {
        begin();
        for (int last = 2047; last <= 16383; last = 2 * last + 1) {
            due("read", x.read("MODULE m " + many("FAIRNESS 0=0;", "", 19) + "MODULE main VAR x:0.." + last + ";"
                    + many("i#:m;", "", 198)), 0);
            due("states", x.call("states", 2, 0), last + 1);
        }
        due("read", x.read("MODULE main VAR x:0..16383; TRANS next(x) <= x; SPEC EF x=0;"), 1);
        due("check", x.call("check", 0), true);
        end("FAIRNESS again", ROOM / 10);
    }

    /** No two sets are alike, none is short in any form, and there are as many as can be. */
    private static void fairnessOfAllKinds() throws Exception {
        begin();
        due("read", x.read("MODULE m(p,x) " + many("FAIRNESS x*p*# mod 7<5;", "", 17) + "MODULE main VAR x:0..16383;"
                + many("i#:m(#*37,x);", "", 198) + "SPEC EG x>5; SPEC AF x=0;"), 2);
        due("check", x.call("check", 0), false);
        due("check", x.call("check", 1), false);
        due("show", x.call("show", 0), "IndexOutOfBoundsException");
        end("FAIRNESS of all kinds");
    }

    private static void scatteredChoices() throws Exception {
        begin();
        due("read", x.read("MODULE main VAR x:0..16383; ASSIGN next(x) := {" + many("x*#", ",", 1500) + "}; SPEC EF x=7;"
                + " SPEC AG EX x=0;"), 2);
        due("check", x.call("check", 0), false);
        due("check", x.call("check", 1), true);
        end("scattered choices");
    }

    /** Rows without any order that share nothing: what finds no room is made again, and is told alike. */
    private static void wildRows() throws Exception {
        begin();
        due("read", x.read("MODULE main VAR x:0..16383; TRANS (x*next(x)*7+next(x)*31) mod 5<2; FAIRNESS x mod 3=1;"
                + " SPEC EF x=0; SPEC EG x>5;"), 2);
        due("states", x.call("states", 2, 0), 16384);
        due("states", x.call("states", 3, 0), 16384);
        due("check", x.call("check", 0), true);
        due("check", x.call("check", 1), false);
        due("show", x.call("show", 0), 1);
        due("show", x.call("show", 1), 2);
        due("pick", x.call("pick", 1), wildFollowers());
        due("faults", x.call("faults", 2), 0);
        end("wild rows");
    }

    private static int wildFollowers() {
        x.call("pick", 1);
        int from = (Integer) x.call("value", 0);
        int followers = 0;
        for (int t = 0; t < 16384; t++) {
            int sum = (short) ((short) ((short) (from * t) * 7) + (short) (t * 31));
            followers += sum % 5 < 2 ? 1 : 0;
        }
        return followers;
    }

    private static void growing() throws Exception {
        begin();
        for (int bits = 1; bits <= 14; bits++) {
            int last = (1 << bits) - 1;
            due("read", x.read("MODULE main VAR x:0.." + last + "; FAIRNESS x*3 mod 5<4; TRANS next(x)<=x; SPEC EG x=0;"
                    + " SPEC EF x=0; SPEC AX x<" + last + ";"), 3);
            due("check", x.call("check", 0), false);
            due("check", x.call("check", 1), true);
            due("check", x.call("check", 2), false);
            due("show", x.call("show", 2), 2);
        }
        end("ever larger MODELS", ROOM / 5);
    }

    /** An E that would be a million operators long if all that its NAMES stand for were written out. */
    private static void longNames() throws Exception {
        begin();
        due("read", x.read("MODULE m VAR x:0..0; DEFINE d:=" + many("x", "+", 2500) + "; MODULE main VAR y:0..16383;"
                + many("i#:m;", "", 198) + " SPEC y+" + many("i#.d", "+", 198) + "=y;"), 1);
        due("check", x.call("check", 0), true);
        end("long NAMES", ROOM / 5);
    }

    private static void longLists() throws Exception {
        begin();
        due("read", x.read("MODULE main VAR x:0..16383; SPEC EF x in {" + many("x", ",", 4800) + "};"), 1);
        due("check", x.call("check", 0), true);
        end("a long list", ROOM / 5);
    }

    private static void manyEntries() throws Exception {
        begin();
        for (int i = 0; i < 3; i++) {
            due("read", x.read("MODULE a VAR " + many("x#:{0};", "", 19) + " MODULE main VAR " + many("i#:a;", "", 199)), 0);
            due("states", x.call("states", 0, 0), 1);
        }
        end("4000 ENTRIES", ROOM / 10);
    }

    private static void brokenTexts() throws Exception {
        begin();
        due("read", x.read("MODULE main SPEC " + many("x", "&", 5000)), "IllegalArgumentException");
        end("10000 bytes that break at their end", ROOM / 10);
    }

    private static void highSpecs() throws Exception {
        begin();
        due("read", x.read("MODULE main VAR x:0..16383; ASSIGN next(x):=x; SPEC " + many("EX x=1", "->", 116) + ";"
                + many("SPEC EF x=#;", "", 100)), 101);
        for (int i = 0; i < 101; i++) {
            due("check " + i, x.call("check", i), i == 0);
        }
        end("high SPECS", ROOM / 5);
    }

    /** One after the other, as much of all of this as 512 calls let in. */
    private static void allTogether() throws Exception {
        begin();
        due("read", x.read("MODULE a VAR " + many("x#:{0};", "", 19) + " MODULE main VAR " + many("i#:a;", "", 199)), 0);
        due("read", x.read("MODULE m(p,x) " + many("FAIRNESS x*p*# mod 7<5;", "", 17) + "MODULE main VAR x:0..1023;"
                + many("i#:m(#*37,x);", "", 198) + "SPEC EG x>5;"), 1);
        due("check", x.call("check", 0), false);
        due("read", x.read("MODULE main VAR x:0..16383; ASSIGN next(x) := {" + many("x*#", ",", 600) + "}; SPEC "
                + many("EX x=1", "->", 60) + "; FAIRNESS x mod 3<2;"), 1);
        due("check", x.call("check", 0), true);
        due("show", x.call("show", 0), "UnsupportedOperationException");
        end("all together");
    }

    /** All that can be made large is made as large as one object lets it be, and what is let go on the way too. */
    private static void asDearAsCanBe() throws Exception {
        begin();
        due("read", x.read("MODULE a VAR " + many("x#:{0};", "", 19) + "MODULE main VAR " + vars(199, "a")), 0);
        due("read", x.read("MODULE a DEFINE " + many("x#:=0;", "", 19) + "MODULE main VAR " + vars(199, "a")), 0);
        due("read", x.read("MODULE a " + many("FAIRNESS 0=0;", "", 19) + "MODULE main VAR " + vars(199, "a")), 0);
        due("states", x.call("states", 0, 0), 1);
        due("read", x.read("MODULE main VAR x:0..1023;ASSIGN next(x):=x;FAIRNESS x>5;SPEC EX x=1;"), 1);
        due("check", x.call("check", 0), false);
        due("read", x.read("MODULE main VAR x:0..16383;SPEC x in {" + many("x", ",", 2000) + "};"), 1);
        due("check", x.call("check", 0), true);
        due("read", x.read("MODULE main VAR x:0..16383;ASSIGN next(x):=x; SPEC " + many("EX x=1", "->", 116) + ";"), 1);
        due("check", x.call("check", 0), true);
        due("read", x.read("MODULE main VAR x:0..16383;TRANS (x*next(x)*7+next(x)*31) mod 5<2;"), 0);
        due("states", x.call("states", 2, 0), 16384);
        end("as dear as can be");
    }

    /** Each INSTANCE has all & of the TRANS of its MODULE. */
    private static void manyAnds() throws Exception {
        begin();
        due("read", x.read("MODULE m DEFINE a:=TRUE;TRANS " + many("a", "&", 3001) + "&a;MODULE main VAR x:boolean;"
                + vars(199, "m") + "SPEC EX x;"), 1);
        due("check", x.call("check", 0), true);
        end("3000 & in 199 INSTANCES", ROOM / 20);
    }

    /** A TRANS as long as can be, in as many INSTANCES as can be: each STATE GOES to all. */
    private static void longTrans(String module, String part, String between) throws Exception {
        begin();
        due("read", x.read(filled("MODULE m " + module + "TRANS ", part, between, ";MODULE main VAR a:boolean;"
                + vars(199, "m") + "SPEC EX a;")), 1);
        due("check", x.call("check", 0), true);
        due("first", x.call("first", 0), 2);
        end("199 INSTANCES of " + part + between + part + "..", ROOM / 15);
    }

    /** The same with a VARIABLE for each BIT: the first STATE, where all are FALSE, GOES to one only. */
    private static void longSteps(String module, String part, String between, String given) throws Exception {
        begin();
        due("read", x.read(filled("MODULE m" + module + "TRANS ", part, between, ";MODULE main VAR "
                + vars(14, "m" + given) + "SPEC EX (b.x|!b.x);")), 1);
        due("check", x.call("check", 0), true);
        due("first", x.call("first", 0), 1);
        end("14 INSTANCES of " + part + between + part + "..", ROOM / 5);
    }

    private static void longTexts() throws Exception {
        String allOfThem = "(" + vars(14, "").replace(":;", ".x|").replaceAll(".$", ")");
        for (String between : new String[] {"&", "|"}) {
            longTrans("DEFINE a:=TRUE;", "a", between);
            longTrans("DEFINE a:=TRUE;", "(a&a&(a&(a&a)))", between);
            longTrans("VAR x:{y};", "next(x)=x", between);
            longTrans("VAR x:{y};", "y in{next(x)}", between);
            longSteps(" VAR x:boolean;", "next(x)", between, "");
            longSteps(" VAR x:boolean;", "(x|next(x))", between, "");
            longSteps(" VAR x:boolean;", "next(x)=x", between, "");
            longSteps(" VAR x:boolean;", "(x&next(x)|x&!next(x)|next(x))", between, "");
            longSteps("(p) VAR x:boolean;", "next(x)&(p|next(x)|!next(x))", between, "(TRUE)");
        }
        longSteps("(p) VAR x:boolean;", "next(x)=p", "&", allOfThem);
        longSteps("(p) VAR x:boolean;", "next(x) in{x,p}", "&", allOfThem);
        longSteps("(p) VAR x:boolean;", "next(x)&(p|next(x))", "&", allOfThem);
    }

    /** No two parts are alike, so that each of them is taken for itself till there are too many. */
    private static void differentParts() throws Exception {
        begin();
        due("read", x.read("MODULE m(p) VAR x:boolean;TRANS " + many("(next(x)|p=#)", "&", 600) + ";MODULE main VAR "
                + vars(14, "m(1000)") + "SPEC EX b.x;"), 1);
        due("check", x.call("check", 0), true);
        due("first", x.call("first", 0), 1);
        end("14 INSTANCES of different parts", ROOM / 5);
        begin();
        due("read", x.read("MODULE m(p) VAR x:boolean;y:boolean;TRANS " + many("(next(x)|p>#|next(y))", "|", 400)
                + ";MODULE main VAR " + vars(7, "m(1)") + "SPEC EX b.x;"), 1);
        due("check", x.call("check", 0), true);
        due("first", x.call("first", 0), 16384);
        end("7 INSTANCES of different parts", ROOM / 5);
    }

    /** As many TRANS and lines as can be, none of which has room for a table of its own. */
    private static void wideTrans() throws Exception {
        begin();
        due("read", x.read("MODULE main VAR x:0..2047;INIT x=0;" + many("TRANS next(x)*#<x*0;", "", 400)
                + "ASSIGN next(x):={" + many("x*#", ",", 250) + "}; SPEC EX x=0;"), 1);
        due("check", x.call("check", 0), false);
        due("first", x.call("first", 0), 0);
        end("wide TRANS", ROOM / 5);
    }

    /** Parts that are reckoned STATE by STATE, each of which looks at thousands of others without next. */
    private static void manyInputs() throws Exception {
        begin();
        String allOfThem = "(" + vars(12, "").replace(":;", ".x|").replaceAll(".$", ")");
        due("read", x.read(filled("MODULE m(p) VAR x:boolean;TRANS next(x)|", "p", "|", ";MODULE main VAR "
                + vars(12, "m" + allOfThem) + "SPEC EX b.x;")), 1);
        due("check", x.call("check", 0), true);
        due("first", x.call("first", 0), 1);
        end("12 INSTANCES of p|p..", ROOM / 9);
    }

    /** As many branches as can be, with a table, a wide choice or a wide truth for each. */
    private static void manyBranches() throws Exception {
        begin();
        due("read", x.read("MODULE main VAR x:0..2047;INIT x=0;TRANS " + many("next(x)=x+#", "|", 700) + ";SPEC EF x=2047;"), 1);
        due("check", x.call("check", 0), true);
        due("first", x.call("first", 0), 700);
        end("700 branches", ROOM / 5);
        begin();
        due("read", x.read("MODULE m(p) VAR x:0..31;y:0..63;TRANS " + many("x+y>p&next(x)-next(y)=#", "|", 380)
                + ";MODULE main VAR b:m(1);FAIRNESS b.x=b.y;SPEC EG b.y<9;"), 1);
        due("check", x.call("check", 0), false);
        due("first", x.call("first", 0), 0);
        end("380 branches with truths", ROOM / 5);
    }

    /** Even if one run made at each place as much as the dearest of all these runs makes there. */
    private static void allPlaces() {
        long sum = 0;
        for (Map.Entry<String, Long> most : MOST_AT.entrySet()) {
            sum += most.getValue();
            if (System.getenv("ROOM_TOLD") != null && most.getValue() > ROOM / 200) {
                System.out.println(most.getValue() + " elements at" + most.getKey());
            }
        }
        if (System.getenv("ROOM_TOLD") != null) {
            System.out.println(sum + " elements at all places together");
        }
        atMost("the most at each place together", sum, ROOM / 2);
    }

    public static void main(String[] args) throws Exception {
        counting();
        newObject();
        ordinary();
        threeHundredChoices();
        fairnessAgain();
        fairnessOfAllKinds();
        scatteredChoices();
        wildRows();
        growing();
        longNames();
        longLists();
        manyEntries();
        brokenTexts();
        highSpecs();
        allTogether();
        asDearAsCanBe();
        manyAnds();
        longTexts();
        differentParts();
        wideTrans();
        manyBranches();
        manyInputs();
        allPlaces();
        System.out.println(wrong == 0 ? asked + " answers are as due" : wrong + " answers are not as due");
        if (wrong != 0) {
            System.exit(1);
        }
    }
}
