import java.io.IOException;
import java.net.URL;
import java.nio.charset.StandardCharsets;
import java.nio.file.DirectoryStream;
import java.nio.file.Files;
import java.nio.file.Path;
import javax.tools.ToolProvider;

/** Copies of the class with something changed in its source, for tests that look within. */
final class Copies {
    private Copies() {
    }

    static String source() throws IOException {
        return Files.readString(Path.of("src/main/java/PathProver.java"), StandardCharsets.ISO_8859_1);
    }

    /** Where the compiled classes of a changed source are, till the program ends. */
    static URL compiled(String source) throws IOException {
        Path work = Files.createTempDirectory("copy");
        Path file = work.resolve("PathProver.java");
        Files.writeString(file, source, StandardCharsets.ISO_8859_1);
        String path = System.getProperty("java.class.path");
        int failed = ToolProvider.getSystemJavaCompiler().run(null, null, null, "-nowarn", "-cp", path, "-d", work.toString(), file.toString());
        if (failed != 0) {
            throw new IllegalStateException("the copy does not compile");
        }
        work.toFile().deleteOnExit();
        try (DirectoryStream<Path> files = Files.newDirectoryStream(work)) {
            for (Path one : files) {
                one.toFile().deleteOnExit();
            }
        }
        return work.toUri().toURL();
    }
}
