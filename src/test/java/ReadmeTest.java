import java.io.ByteArrayOutputStream;
import java.io.PrintStream;
import java.net.URL;
import java.net.URLClassLoader;
import java.nio.charset.StandardCharsets;
import java.nio.file.Files;
import java.nio.file.Path;
import javax.tools.ToolProvider;

/** The example of README.md: it must compile as it stands there, and print what stands below it. */
public final class ReadmeTest {
    private ReadmeTest() {
    }

    private static String block(String text, String kind) {
        String fence = "```";
        int from = text.indexOf(fence + kind + "\n") + fence.length() + kind.length() + 1;
        return text.substring(from, text.indexOf(fence, from));
    }

    private static String printed(String source) throws Exception {
        Path work = Files.createTempDirectory("readme");
        Path file = work.resolve("Example.java");
        Files.writeString(file, source, StandardCharsets.ISO_8859_1);
        String path = System.getProperty("java.class.path");
        int failed = ToolProvider.getSystemJavaCompiler().run(null, null, null, "-cp", path, "-d", work.toString(), file.toString());
        if (failed != 0) {
            return "the example does not compile";
        }
        PrintStream usual = System.out;
        ByteArrayOutputStream told = new ByteArrayOutputStream();
        System.setOut(new PrintStream(told, true));
        try (URLClassLoader loader = new URLClassLoader(new URL[] {work.toUri().toURL()})) {
            loader.loadClass("Example").getMethod("main", String[].class).invoke(null, (Object) new String[0]);
        } finally {
            System.setOut(usual);
            Files.deleteIfExists(work.resolve("Example.class"));
            Files.deleteIfExists(file);
            Files.deleteIfExists(work);
        }
        return told.toString().replace(System.lineSeparator(), "\n");
    }

    public static void main(String[] args) throws Exception {
        String readme = Files.readString(Path.of("README.md"), StandardCharsets.ISO_8859_1);
        String got = printed(block(readme, "java"));
        String want = block(readme, "text");
        if (!got.equals(want)) {
            System.out.println("the example of README.md prints\n" + got + "due is\n" + want);
            System.exit(1);
        }
        System.out.println("the example of README.md prints what is due");
    }
}
