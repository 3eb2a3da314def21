import java.io.IOException;
import java.lang.reflect.Constructor;
import java.lang.reflect.Field;
import java.lang.reflect.InvocationTargetException;
import java.lang.reflect.Method;
import java.lang.reflect.Modifier;
import java.net.URL;
import java.net.URLClassLoader;
import java.nio.charset.StandardCharsets;
import java.util.ArrayDeque;
import java.util.HashMap;
import java.util.IdentityHashMap;
import java.util.Map;

/**
 * An object of a copy of the class that is the same but for one thing: each array is made by Made, so
 * that all that a run of calls makes is counted.
 */
final class Counted {
    private static final Map<String, Method> CALLS = new HashMap<>();
    private static Constructor<?> maker;
    private final Object object;
    private int calls = 0;

    Counted() throws ReflectiveOperationException, IOException {
        if (maker == null) {
            compile();
        }
        Made.clear();
        object = maker.newInstance();
    }

    private static void compile() throws IOException, ReflectiveOperationException {
        URL[] urls = {Copies.compiled(counting(Copies.source()))};
        Class<?> made = new OwnFirst(urls).loadClass("PathProver");
        maker = made.getConstructor();
        for (Method method : made.getMethods()) {
            CALLS.put(method.getName(), method);
        }
    }

    /** The copy must be found before the class itself, which has the same name. */
    private static final class OwnFirst extends URLClassLoader {
        OwnFirst(URL[] urls) {
            super(urls, Counted.class.getClassLoader());
        }

        @Override
        protected Class<?> loadClass(String name, boolean resolve) throws ClassNotFoundException {
            if (!name.startsWith("PathProver")) {
                return super.loadClass(name, resolve);
            }
            Class<?> known = findLoadedClass(name);
            return known != null ? known : findClass(name);
        }
    }

    /** The source with each array made by Made. */
    static String counting(String source) {
        String text = source.replace("Arrays.copyOf(", "Made.copyOf(");
        String[] types = {"int", "long", "byte"};
        String[] makers = {"ofInt", "ofLong", "ofByte"};
        for (int t = 0; t < types.length; t++) {
            String sought = "new " + types[t] + "[";
            for (int at = text.indexOf(sought); at >= 0; at = text.indexOf(sought, at)) {
                int from = at + sought.length();
                int end = closing(text, from);
                boolean rows = text.startsWith("[]", end + 1);
                String call = "Made." + (rows ? "ofRows" : makers[t]) + "(" + text.substring(from, end) + ")";
                text = text.substring(0, at) + call + text.substring(rows ? end + 3 : end + 1);
            }
        }
        return text;
    }

    private static int closing(String text, int from) {
        int open = 1;
        for (int i = from; i < text.length(); i++) {
            open += text.charAt(i) == '[' ? 1 : text.charAt(i) == ']' ? -1 : 0;
            if (open == 0) {
                return i;
            }
        }
        throw new IllegalStateException("an array without an end");
    }

    /** What a call answers, or the exception that it throws. */
    Object call(String name, int... numbers) {
        Object[] arguments = new Object[numbers.length];
        for (int i = 0; i < numbers.length; i++) {
            arguments[i] = numbers[i];
        }
        calls++;
        try {
            return CALLS.get(name).invoke(object, arguments);
        } catch (InvocationTargetException e) {
            return e.getCause().getClass().getSimpleName();
        } catch (IllegalAccessException e) {
            throw new IllegalStateException(e);
        }
    }

    /** Feeds a text and reads it. */
    Object read(String text) {
        byte[] bytes = text.getBytes(StandardCharsets.ISO_8859_1);
        for (int i = 0; i < bytes.length; i += 20) {
            int[] five = new int[5];
            for (int k = 0; k < 20; k++) {
                five[k / 4] = five[k / 4] << 8 | (i + k < bytes.length ? bytes[i + k] & 255 : 0);
            }
            call("feed", five);
        }
        call("end", bytes.length);
        return call("read");
    }

    int calls() {
        return calls;
    }

    /** Objects that are no arrays, and their fields; none of these is ever let go. */
    long[] objectsAndFields() throws IllegalAccessException {
        Map<Object, Boolean> seen = new IdentityHashMap<>();
        ArrayDeque<Object> open = new ArrayDeque<>();
        open.add(object);
        long fields = 0;
        while (!open.isEmpty()) {
            Object one = open.poll();
            if (one.getClass().isArray() || seen.put(one, true) != null) {
                continue;
            }
            for (Field field : one.getClass().getDeclaredFields()) {
                if (!Modifier.isStatic(field.getModifiers())) {
                    fields++;
                    field.setAccessible(true);
                    if (!field.getType().isPrimitive() && field.get(one) != null) {
                        open.add(field.get(one));
                    }
                }
            }
        }
        return new long[] {seen.size(), fields};
    }
}
