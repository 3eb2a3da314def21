import java.lang.reflect.Array;
import java.lang.reflect.Field;
import java.lang.reflect.Modifier;
import java.util.ArrayDeque;
import java.util.IdentityHashMap;
import java.util.Map;

/**
 * Systems of 14 BITS, with answers that can be told by thinking, and the room that they take: what
 * one object holds stays far below 7.3 million elements, however many STATES go to how many.
 */
public final class LargeTest {
    private static final long ROOM = 7_300_000L;
    private static final long MOST_OBJECTS = 600_000L;
    private static int wrong = 0;
    private static int asked = 0;

    private static void due(String what, long got, long want) {
        asked++;
        if (got != want) {
            wrong++;
            System.out.println(what + " is " + got + ", due is " + want);
        }
    }

    private static void below(String what, long got, long most) {
        asked++;
        if (got > most) {
            wrong++;
            System.out.println(what + " is " + got + ", at most " + most + " is due");
        }
    }

    private static void states(String what, PathProver x, int... want) {
        for (int i = 0; i < want.length; i++) {
            due(what + " states(" + i + ", 0)", x.states(i, 0), want[i]);
        }
    }

    private static void spec(String what, PathProver x, int i, boolean holds, int many) {
        due(what + " check(" + i + ")", x.check(i) ? 1 : 0, holds ? 1 : 0);
        due(what + " states(5, " + i + ")", x.states(5, i), many);
    }

    private static int shown(PathProver x, int i) {
        try {
            return x.show(i);
        } catch (IndexOutOfBoundsException e) {
            return -1;
        }
    }

    /** Objects and elements that an object holds. */
    private static long[] held(Object start) throws IllegalAccessException {
        Map<Object, Boolean> seen = new IdentityHashMap<>();
        ArrayDeque<Object> open = new ArrayDeque<>();
        open.add(start);
        long elements = 0;
        while (!open.isEmpty()) {
            Object one = open.poll();
            if (seen.put(one, true) != null) {
                continue;
            }
            if (one.getClass().isArray()) {
                int n = Array.getLength(one);
                elements += n;
                for (int i = 0; i < n && !one.getClass().getComponentType().isPrimitive(); i++) {
                    if (Array.get(one, i) != null) {
                        open.add(Array.get(one, i));
                    }
                }
                continue;
            }
            for (Field f : one.getClass().getDeclaredFields()) {
                if (!Modifier.isStatic(f.getModifiers())) {
                    elements++;
                    f.setAccessible(true);
                    if (!f.getType().isPrimitive() && f.get(one) != null) {
                        open.add(f.get(one));
                    }
                }
            }
        }
        return new long[] {seen.size(), elements};
    }

    private static void room(String what, PathProver x, long most) throws IllegalAccessException {
        long[] held = held(x);
        below(what + " objects", held[0], MOST_OBJECTS / 100);
        below(what + " elements", held[1], most);
    }

    private static void counter() throws IllegalAccessException {
        StringBuilder text = new StringBuilder("MODULE bit(carry) VAR on : boolean; ASSIGN init(on) := FALSE;"
                + " next(on) := on xor carry; DEFINE out := on & carry;\nMODULE main VAR b0 : bit(TRUE);");
        for (int i = 1; i < 14; i++) {
            text.append(" b").append(i).append(" : bit(b").append(i - 1).append(".out);");
        }
        text.append(" DEFINE n := 0");
        for (int i = 0; i < 14; i++) {
            text.append(" + case b").append(i).append(".on : ").append(1 << i).append("; esac");
        }
        text.append("; SPEC AF n = 16383; SPEC EF n = 1999; SPEC EF n = 2000; SPEC EG n < 8;"
                + " SPEC E [ n < 1999 U n = 1999 ]; SPEC AX n = 1; SPEC AG (n = 15 -> AX n = 16);");
        PathProver x = Tapes.of(text.toString());
        states("counter", x, 16384, 1, 16384, 16384, 0);
        spec("counter", x, 0, true, 16384);
        spec("counter", x, 3, false, 0);
        spec("counter", x, 4, true, 2000);
        spec("counter", x, 5, true, 1);
        spec("counter", x, 6, true, 16384);
        due("counter show(1)", shown(x, 1), 2000);
        due("counter show(2)", shown(x, 2), -1);
        room("counter", x, ROOM / 5);
    }

    private static void free() throws IllegalAccessException {
        StringBuilder text = new StringBuilder("MODULE main VAR");
        for (int i = 0; i < 14; i++) {
            text.append(" x").append(i).append(" : boolean;");
        }
        PathProver x = Tapes.of(text + " FAIRNESS x2; FAIRNESS !x2 & x5; SPEC AG EF (x0 & x13); SPEC EG x1; SPEC EG x2;"
                + " SPEC AF !x5; SPEC EX (x0 & !x2);");
        states("free", x, 16384, 16384, 16384, 16384, 0);
        spec("free", x, 0, true, 16384);
        spec("free", x, 1, false, 8192);
        spec("free", x, 2, false, 0);
        spec("free", x, 3, false, 8192);
        due("free show(1)", shown(x, 1), 3);
        due("free first(0)", x.first(0), 16384);
        due("free step(16383)", x.step(16383), 16384);
        due("free value(13)", x.value(13), 1);
        room("free", x, ROOM / 5);
    }

    private static void sums() throws IllegalAccessException {
        PathProver x = Tapes.of("MODULE main VAR x : 0 .. 127; y : 0 .. 127; INIT x = 0 & y = 100;"
                + " TRANS next(x) + next(y) = x + y; SPEC EF x = 100; SPEC AG x + y = 100; SPEC EX y = 0;");
        states("sums", x, 16384, 1, 101, 101, 0);
        spec("sums", x, 0, true, 128 * 128 - 100 * 101 / 2 - 27 * 28 / 2);
        spec("sums", x, 1, true, 101);
        spec("sums", x, 2, true, 128 * 129 / 2);
        due("sums first(0)", x.first(0), 101);
        room("sums", x, ROOM / 5);
    }

    private static void dense() throws IllegalAccessException {
        PathProver x = Tapes.of("MODULE main VAR x : 0 .. 16383; INIT x = 0; TRANS next(x) <= x + 1;"
                + " SPEC EF x = 1000; SPEC AG EF x = 16383; SPEC EG x < 5; SPEC AF x = 3; SPEC EX x = 7;");
        states("dense", x, 16384, 1, 16384, 16384, 0);
        spec("dense", x, 0, true, 16384);
        spec("dense", x, 1, true, 16384);
        spec("dense", x, 2, true, 5);
        spec("dense", x, 3, false, 1);
        spec("dense", x, 4, false, 16384 - 6);
        due("dense show(0)", shown(x, 0), 1001);
        due("dense pick(1000)", x.pick(1000), 1002);
        room("dense", x, ROOM / 5);
    }

    private static void fewSteps() throws IllegalAccessException {
        PathProver x = Tapes.of("MODULE main VAR x : 0 .. 127; y : 0 .. 127; ASSIGN init(x) := 0; init(y) := 0;"
                + " next(x) := {x, x + 1}; next(y) := {y, y + 1};"
                + " TRANS next(x) + next(y) > x + y | x = 127 & y = 127 & next(x) * next(y) = x * y;"
                + " SPEC AF (x = 127 & y = 127); SPEC EF (x = 127 & y = 0); SPEC EG x = 0; SPEC AG EX x > y;");
        states("few steps", x, 16384, 1, 16384, 16384, 0);
        spec("few steps", x, 0, true, 16384);
        spec("few steps", x, 1, true, 128);
        spec("few steps", x, 2, false, 0);
        due("few steps show(1)", shown(x, 1), 128);
        due("few steps first(0)", x.first(0), 3);
        room("few steps", x, ROOM / 5);
    }

    private static int wrapped(int number) {
        return (short) number;
    }

    private static boolean goes(int x, int y) {
        return y >= x && wrapped(x * y) % 3 != 1;
    }

    private interface Truth {
        boolean in(int x);
    }

    /** STATES from which a way through some leads to a goal, or is kept up for ever by a STATE that GOES to itself. */
    private static boolean[] leading(Truth through, Truth goal, Truth loop) {
        boolean[] good = new boolean[16384];
        for (int x = 16383; x >= 0; x--) {
            good[x] = goal.in(x) || through.in(x) && goes(x, x) && loop.in(x);
            for (int y = x + 1; y < 16384 && !good[x] && through.in(x); y++) {
                good[x] = good[y] && goes(x, y);
            }
        }
        return good;
    }

    private static int many(boolean[] set) {
        int all = 0;
        for (boolean one : set) {
            all += one ? 1 : 0;
        }
        return all;
    }

    /** Rows that have no order, most of which find no room and are made again and again. */
    private static void wild() throws IllegalAccessException {
        PathProver x = Tapes.of("MODULE main VAR x : 0 .. 16383; INIT x = 3; TRANS next(x) >= x & x * next(x) mod 3 != 1; FAIRNESS x mod 7 < 5; FAIRNESS x mod 11 != 3;"
                + " SPEC EG x mod 2 = 0; SPEC EF x mod 5000 = 7; SPEC E [ x mod 2 = 1 U x mod 97 = 5 ]; SPEC AF x mod 5 = 0; SPEC EX x > 16380;");
        Truth fairHere = s -> s % 7 < 5 && s % 11 != 3;
        Truth never = s -> false;
        boolean[] fair = leading(s -> true, never, fairHere);
        boolean[] next = new boolean[16384];
        boolean[] reached = new boolean[16384];
        for (int s = 0; s < 16384; s++) {
            for (int t = 16381; t < 16384; t++) {
                next[s] |= goes(s, t) && fair[t];
            }
            for (int t = 0; t < s && !reached[s]; t++) {
                reached[s] = reached[t] && goes(t, s);
            }
            reached[s] |= s == 3;
        }
        boolean[] reachedFair = new boolean[16384];
        for (int s = 0; s < 16384; s++) {
            reachedFair[s] = reached[s] && fair[s];
        }
        states("wild", x, 16384, 1, many(reached), many(reachedFair));
        due("wild EG", x.states(5, 0), many(leading(s -> s % 2 == 0, never, fairHere)));
        due("wild EF", x.states(5, 1), many(leading(s -> true, s -> s % 5000 == 7 && fair[s], never)));
        due("wild E [ ]", x.states(5, 2), many(leading(s -> s % 2 == 1, s -> s % 97 == 5 && fair[s], never)));
        due("wild AF", x.states(5, 3), 16384 - many(leading(s -> s % 5 != 0, never, fairHere)));
        due("wild EX", x.states(5, 4), many(next));
        due("wild show", shown(x, 1) > 1 ? 1 : 0, 1);
        due("wild faults", x.faults(2), 0);
        room("wild", x, ROOM * 2 / 5);
    }

    /** Just one of 14 VARIABLES changes at a time, or none when all are TRUE. */
    private static void flips() throws IllegalAccessException {
        StringBuilder vars = new StringBuilder();
        StringBuilder ways = new StringBuilder();
        StringBuilder all = new StringBuilder();
        for (int i = 0; i < 14; i++) {
            vars.append("v").append(i).append(":boolean;");
            all.append(i > 0 ? "&" : "").append("v").append(i);
            for (int k = 0; k < 14; k++) {
                ways.append(k > 0 ? "&" : i > 0 ? "|" : "").append("next(v").append(k).append(k == i ? ")!=v" : ")=v").append(k);
            }
        }
        PathProver x = Tapes.of("MODULE main VAR " + vars + "DEFINE all:=" + all + "; INIT " + all.toString().replace("v", "!v")
                + "; TRANS " + ways + "|all&" + all.toString().replaceAll("(v\\d+)", "next($1)") + "; SPEC EF all; SPEC AF all; SPEC AG EF !v0; SPEC EX v3; FAIRNESS all;");
        states("flips", x, 16384, 1, 16384, 16384, 0);
        spec("flips", x, 0, true, 16384);
        spec("flips", x, 1, true, 16384);
        spec("flips", x, 2, true, 16384);
        due("flips EX", x.states(5, 3), 16384);
        due("flips show", shown(x, 0), 15);
        due("flips first", x.first(0), 14);
        due("flips pick", x.pick(14), 15);
        due("flips step", x.step(14), 15);
        due("flips faults", x.faults(2), 0);
        room("flips", x, ROOM / 5);
    }

    /** Each step adds 1, doubles, or stays where a guard says so. */
    private static void ways() throws IllegalAccessException {
        PathProver x = Tapes.of("MODULE main VAR x : 0 .. 16383; INIT x = 0; TRANS next(x) = x + 1 | x < 8192 & next(x) = x * 2"
                + " | x mod 2 = 1 & next(x) = x; SPEC EF x = 16383; SPEC EG x = 1; SPEC AX x < 2; SPEC E [x < 7 U x = 1999];");
        states("ways", x, 16384, 1, 16384, 16384, 0);
        due("ways EF", x.states(5, 0), 16384);
        due("ways EG", x.states(5, 1), 1);
        due("ways AX", x.states(5, 2), 1);
        due("ways E [ ]", x.states(5, 3), 1);
        due("ways show", shown(x, 0), 28);
        due("ways first", x.first(0), 2);
        due("ways step to 1", x.step(1), 2);
        due("ways step to 2", x.step(1), 2);
        due("ways faults", x.faults(2), 0);
        room("ways", x, ROOM / 5);
    }

    private static void again() throws IllegalAccessException {
        PathProver x = new PathProver();
        for (int bits = 1; bits <= 14; bits++) {
            int last = (1 << bits) - 1;
            Tapes.feed(x, "MODULE main VAR x : 0 .. " + last + "; TRANS next(x) >= x; SPEC AF x = " + last + "; SPEC EG x = 0;");
            due("again read", x.read(), 2);
            states("again", x, last + 1, last + 1, last + 1, last + 1, 0);
            spec("again", x, 0, false, 1);
            spec("again", x, 1, false, 1);
        }
        room("again", x, ROOM / 5);
    }

    public static void main(String[] args) throws IllegalAccessException {
        room("a new object", new PathProver(), ROOM / 200);
        counter();
        free();
        sums();
        dense();
        fewSteps();
        wild();
        flips();
        ways();
        again();
        System.out.println(wrong == 0 ? asked + " answers are as due" : wrong + " answers are not as due");
        if (wrong != 0) {
            System.exit(1);
        }
    }
}
