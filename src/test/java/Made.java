import java.util.Arrays;
import java.util.Map;
import java.util.TreeMap;

/** Counts the arrays that a counted copy of the class makes, whether they are kept or let go again, and where. */
public final class Made {
    private static long arrays = 0;
    private static long elements = 0;
    private static final Map<String, Long> PLACES = new TreeMap<>();

    private Made() {
    }

    static void clear() {
        arrays = 0;
        elements = 0;
        PLACES.clear();
    }

    static long arrays() {
        return arrays;
    }

    static long elements() {
        return elements;
    }

    /** How many elements were made by which methods. */
    static Map<String, Long> places() {
        return PLACES;
    }

    private static int count(int n) {
        arrays++;
        elements += n;
        PLACES.merge(place(), (long) n, Long::sum);
        return n;
    }

    /** The methods that make an array: as rows grow in one place only, those that called it belong to the place. */
    private static String place() {
        StringBuilder place = new StringBuilder();
        StackWalker.getInstance().walk(frames -> frames.skip(3).limit(3).toList())
                .forEach(frame -> place.append(' ').append(frame.getMethodName()).append(':').append(frame.getLineNumber()));
        return place.toString();
    }

    public static int[] ofInt(int n) {
        return new int[count(n)];
    }

    public static long[] ofLong(int n) {
        return new long[count(n)];
    }

    public static byte[] ofByte(int n) {
        return new byte[count(n)];
    }

    public static long[][] ofRows(int n) {
        return new long[count(n)][];
    }

    public static int[] copyOf(int[] row, int n) {
        return Arrays.copyOf(row, count(n));
    }

    public static long[] copyOf(long[] row, int n) {
        return Arrays.copyOf(row, count(n));
    }

    public static byte[] copyOf(byte[] row, int n) {
        return Arrays.copyOf(row, count(n));
    }
}
