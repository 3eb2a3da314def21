import java.nio.charset.StandardCharsets;

/** What all tests need: to bring a whole text to the tape of an object. */
final class Tapes {
    private Tapes() {
    }

    /** Feeds the bytes and cuts the tape behind them; its length. */
    static int feed(PathProver x, byte[] bytes) {
        int length = 0;
        for (int i = 0; i < bytes.length; i += 20) {
            int[] five = new int[5];
            for (int k = 0; k < 20; k++) {
                five[k / 4] = five[k / 4] << 8 | (i + k < bytes.length ? bytes[i + k] & 255 : 0);
            }
            length = x.feed(five[0], five[1], five[2], five[3], five[4]);
        }
        int over = (20 - bytes.length % 20) % 20;
        return bytes.length == 0 ? 0 : x.end(length - over);
    }

    static int feed(PathProver x, String text) {
        return feed(x, text.getBytes(StandardCharsets.ISO_8859_1));
    }

    /** A new object that has read a text. */
    static PathProver of(String text) {
        PathProver x = new PathProver();
        feed(x, text);
        x.read();
        return x;
    }
}
