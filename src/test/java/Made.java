import java.util.Arrays;

/** Counts the arrays that a counted copy of the class makes, whether they are kept or let go again. */
public final class Made {
    private static long arrays = 0;
    private static long elements = 0;

    private Made() {
    }

    static void clear() {
        arrays = 0;
        elements = 0;
    }

    static long arrays() {
        return arrays;
    }

    static long elements() {
        return elements;
    }

    private static int count(int n) {
        arrays++;
        elements += n;
        return n;
    }

    public static int[] ofInt(int n) {
        return new int[count(n)];
    }

    public static long[] ofLong(int n) {
        return new long[count(n)];
    }

    public static byte[] ofByte(int n) {
        return new byte[count(n)];
    }

    public static long[][] ofRows(int n) {
        return new long[count(n)][];
    }

    public static int[] copyOf(int[] row, int n) {
        return Arrays.copyOf(row, count(n));
    }

    public static long[] copyOf(long[] row, int n) {
        return Arrays.copyOf(row, count(n));
    }

    public static byte[] copyOf(byte[] row, int n) {
        return Arrays.copyOf(row, count(n));
    }
}
