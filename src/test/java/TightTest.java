import java.io.File;
import java.net.MalformedURLException;
import java.net.URL;
import java.net.URLClassLoader;

/**
 * What finds no room in a table, in the store or among the pieces is reckoned in another way, which
 * small systems never need: so they are asked of copies of the class in which all limits are low.
 */
public final class TightTest {
    private static final String[] SYSTEMS = {"600"};
    private static final String[][] LIMITS = {
        {"TABLE_LIMIT = 1"},
        {"TABLE_LIMIT = 1", "STEP_WORK = 0"},
        {"TABLE_WORK = 0", "TABLE_SHARE = 1 << 20", "STEP_WORK = 0"},
        {"TABLE_LIMIT = 24", "PIECE_LIMIT = 6", "STEP_WORK = 0", "TABLE_WORK = 0"},
        {"TABLE_WORK = 0", "TABLE_SHARE = 1 << 20", "STEP_WORK = 1", "BRANCH_WORK = 0"},
        {"TABLE_LIMIT = 8", "PIECE_LIMIT = 3", "INPUT_LIMIT = 2"},
        {"TABLE_LIMIT = 64", "PIECE_LIMIT = 8", "LATEST = 1", "CELL_LIMIT = 64"},
        {"TABLE_LIMIT = 16", "CHUNK = 300", "CHUNKS = 2", "LANES = 3"},
        {"SMALL_SPACE = 1 << 7", "FIRST_SPACE = 5", "KEPT = 1", "FEW = 1"}};

    /** The source with limits in place of those that it has. */
    private static String tight(String source, String[] limits) {
        String text = source;
        for (String limit : limits) {
            String head = " int " + limit.substring(0, limit.indexOf('=') + 2);
            int at = text.indexOf(head);
            if (at < 0 || text.indexOf(head, at + 1) >= 0) {
                throw new IllegalStateException("there is not one " + head);
            }
            text = text.substring(0, at) + " int " + limit + text.substring(text.indexOf(';', at));
        }
        return text;
    }

    /** The copy, and all tests with it, but nothing that has been loaded already. */
    private static URLClassLoader loader(URL copy) throws MalformedURLException {
        String[] path = System.getProperty("java.class.path").split(File.pathSeparator);
        URL[] urls = new URL[path.length + 1];
        urls[0] = copy;
        for (int i = 0; i < path.length; i++) {
            urls[i + 1] = new File(path[i]).toURI().toURL();
        }
        return new URLClassLoader(urls, ClassLoader.getPlatformClassLoader());
    }

    public static void main(String[] args) throws Exception {
        for (String[] limits : LIMITS) {
            System.out.println("with " + String.join(", ", limits) + ":");
            Class<?> test = loader(Copies.compiled(tight(Copies.source(), limits))).loadClass("PlainTest");
            test.getMethod("main", String[].class).invoke(null, (Object) SYSTEMS);
        }
    }
}
