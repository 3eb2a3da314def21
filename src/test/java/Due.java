import java.util.function.Supplier;

/** What tests of single sentences share: the sentence stands before its tests and is told when one fails. */
abstract class Due {
    protected static final Class<?> IAE = IllegalArgumentException.class;
    protected static final Class<?> ISE = IllegalStateException.class;
    protected static final Class<?> UOE = UnsupportedOperationException.class;
    protected static final Class<?> IOB = IndexOutOfBoundsException.class;
    protected static int wrong = 0;
    protected static int asked = 0;
    protected static String sentence = "";

    protected static Object outcome(Supplier<Object> call) {
        try {
            return call.get();
        } catch (RuntimeException e) {
            return e.getClass();
        }
    }

    protected static void due(String what, Object want, Supplier<Object> call) {
        Object got = outcome(call);
        asked++;
        if (!want.equals(got)) {
            wrong++;
            System.out.println("\"" + sentence + "\": " + what + " answered " + got + ", due is " + want);
        }
    }

    /** What read answers or throws for a text. */
    protected static void reads(String text, Object want) {
        PathProver x = new PathProver();
        Tapes.feed(x, text);
        due("read of " + text, want, x::read);
        due("place after " + text, -1, x::place);
    }

    /** A text that is SYNTAX at a place. */
    protected static void breaksAt(String text, int place) {
        PathProver x = new PathProver();
        Tapes.feed(x, text);
        due("read of " + text, IAE, x::read);
        due("place after " + text, place, x::place);
    }

    /** A text that is SYNTAX where | stands, which is taken out. */
    protected static void breaks(String text) {
        int place = text.indexOf('|');
        breaksAt(text.substring(0, place) + text.substring(place + 1), place);
    }

    /** An E over nothing, or over a boolean x, that is true everywhere. */
    protected static void isTrue(String e) {
        PathProver x = Tapes.of("MODULE main VAR x : boolean; s : {red, green}; n : -2 .. 5; SPEC " + e + ";");
        due(e, true, () -> x.check(0));
    }

    protected static String times(String what, int n) {
        return what.repeat(n);
    }

    /** A form again and again, with the number of each in place of #. */
    protected static String many(String form, int n) {
        StringBuilder all = new StringBuilder();
        for (int i = 0; i < n; i++) {
            all.append(form.replace("#", Integer.toString(i)));
        }
        return all.toString();
    }

    /** Tells how it went, and ends the program if something is wrong. */
    protected static void finish() {
        System.out.println(wrong == 0 ? asked + " answers are as due" : wrong + " answers are not as due");
        if (wrong != 0) {
            System.exit(1);
        }
    }
}
