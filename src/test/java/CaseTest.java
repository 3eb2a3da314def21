import java.io.IOException;
import java.nio.charset.StandardCharsets;
import java.nio.file.Files;
import java.nio.file.Path;
import java.util.ArrayList;
import java.util.Collections;
import java.util.List;
import java.util.stream.Stream;

/**
 * Runs of calls with the answers that are due, from the files in src/test/cases. These were reckoned
 * by two plain checkers that were written from the document alone (all pairs of STATES one by one,
 * fixpoints over sets), so they tell where the class does not agree with them. A line is a call, " = "
 * and its answer; "text" feeds a whole text and cuts the tape behind it.
 */
public final class CaseTest {
    private static int wrong = 0;
    private static int asked = 0;

    private static byte[] unescape(String text) {
        byte[] out = new byte[text.length()];
        int size = 0;
        for (int i = 0; i < text.length(); i++) {
            char c = text.charAt(i);
            if (c == '\\' && text.charAt(i + 1) == 'n') {
                c = '\n';
                i++;
            } else if (c == '\\') {
                c = (char) Integer.parseInt(text.substring(i + 2, i + 4), 16);
                i += 3;
            }
            out[size++] = (byte) c;
        }
        return java.util.Arrays.copyOf(out, size);
    }

    private static int call(PathProver x, String[] words) {
        int a = words.length > 1 ? Integer.parseInt(words[1]) : 0;
        int b = words.length > 2 ? Integer.parseInt(words[2]) : 0;
        switch (words[0]) {
            case "end":
                return x.end(a);
            case "read":
                return x.read();
            case "place":
                return x.place();
            case "check":
                return x.check(a) ? 1 : 0;
            case "states":
                return x.states(a, b);
            case "count":
                return x.count(a);
            case "show":
                return x.show(a);
            case "pick":
                return x.pick(a);
            case "first":
                return x.first(a);
            case "step":
                return x.step(a);
            case "value":
                return x.value(a);
            case "holds":
                return x.holds(a) ? 1 : 0;
            case "tidy":
                return x.tidy(a);
            case "faults":
                return x.faults(a);
            default:
                throw new ArithmeticException("no such call: " + words[0]);
        }
    }

    private static String answer(PathProver x, String call) {
        try {
            if (call.startsWith("text ")) {
                return "" + Tapes.feed(x, unescape(call.substring(5)));
            }
            return "" + call(x, call.split(" "));
        } catch (RuntimeException e) {
            return e.getClass().getSimpleName();
        }
    }

    private static void run(Path file) throws IOException {
        PathProver x = new PathProver();
        int number = 0;
        for (String line : Files.readAllLines(file, StandardCharsets.US_ASCII)) {
            number++;
            if (line.equals("new")) {
                x = new PathProver();
                continue;
            }
            int equal = line.lastIndexOf(" = ");
            String got = answer(x, line.substring(0, equal));
            String want = line.substring(equal + 3);
            asked++;
            if (!got.equals(want)) {
                wrong++;
                System.out.println(file + ":" + number + ": " + line.substring(0, Math.min(equal, 60))
                        + " answered " + got + ", due is " + want);
            }
        }
    }

    public static void main(String[] args) throws IOException {
        List<Path> files = new ArrayList<>();
        try (Stream<Path> found = Files.list(Path.of("src/test/cases"))) {
            found.forEach(files::add);
        }
        Collections.sort(files);
        for (Path file : files) {
            run(file);
        }
        System.out.println(wrong == 0 && asked > 0 ? asked + " answers are as due" : wrong + " answers are not as due");
        if (wrong != 0 || asked == 0) {
            System.exit(1);
        }
    }
}
