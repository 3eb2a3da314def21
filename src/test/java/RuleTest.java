import java.io.IOException;
import java.util.ArrayList;
import java.util.HashMap;
import java.util.HashSet;
import java.util.List;
import java.util.Map;
import java.util.Set;
import java.util.TreeMap;
import java.util.regex.Matcher;
import java.util.regex.Pattern;

/** Those rules of LANGUAGE.md that can be seen in the text of the class alone. */
public final class RuleTest {
    private static final int MOST_PARAMETERS = 7;
    private static final int MOST_LINES = 60;
    private static final int MOST_DEEP = 8;
    private static final int MOST_CLASSES = 13;
    private static final int MOST_FIELDS = 24;
    private static final Set<String> FACE = Set.of("feed", "end", "read", "place", "check", "states", "count", "show", "pick",
            "first", "step", "value", "holds", "tidy", "faults");
    private static final Set<String> THROWN = Set.of("IllegalStateException", "IllegalArgumentException",
            "IndexOutOfBoundsException", "UnsupportedOperationException");
    private static final Set<String> LIBRARY = Set.of("Math", "Arrays", "System", "Integer", "Long");
    private static final String[] FORBIDDEN = {"->", "::", "\\bsynchronized\\b", "\\bassert\\b", "\\bfinally\\b", "\\bprotected\\b",
        "\\bdouble\\b", "\\bfloat\\b", "\\btry\\b", "\\bcatch\\b", "Exact\\(", "\\bstatic \\{", "\\bgetMessage\\b", "\\bhashCode\\b",
        "\\btoString\\b", "\\brandom\\b", "\\bnanoTime\\b", "\\bcurrentTimeMillis\\b", "\\bThread\\b", "\\bgetenv\\b", "\\bprintln\\b",
        "\\bString \\w+ = \\w+ \\+", "\\bimport (?!java\\.util\\.Arrays;)", "\\[\\]\\[\\]\\[\\]"};

    /** A method, with the class that it stands in. */
    private record Part(String owner, String name, int parameters, String body, boolean isPrivate) {
    }

    private static final List<Part> PARTS = new ArrayList<>();
    private static final Map<Part, Integer> DEPTHS = new HashMap<>();
    private static final Map<String, String> CLASS_OF = new TreeMap<>();
    private static int wrong = 0;

    private static void needs(boolean fine, String told) {
        if (!fine) {
            wrong++;
            System.out.println(told);
        }
    }

    /** The source without remarks and without what stands in texts and characters. */
    private static String plain(String source) {
        return source.replaceAll("(?s)/\\*.*?\\*/", "").replaceAll("//[^\n]*", "").replaceAll("\"(\\\\.|[^\"\\\\])*\"", "\"\"")
                .replaceAll("'(\\\\.|[^'\\\\])'", "' '");
    }

    private static int closing(String text, int open) {
        int depth = 0;
        for (int i = open; i < text.length(); i++) {
            depth += text.charAt(i) == '{' ? 1 : text.charAt(i) == '}' ? -1 : 0;
            if (depth == 0) {
                return i;
            }
        }
        throw new IllegalStateException("a brace without an end");
    }

    private static void takeClass(String name, String body) {
        Matcher method = Pattern.compile("\n +((?:public |private |static |final )*)[\\w\\[\\]]+ (\\w+)\\(([^)]*)\\)(?:\\s+throws [\\w,\\s]+)? \\{")
                .matcher(body);
        int fields = 0;
        int from = 0;
        StringBuilder outside = new StringBuilder();
        while (method.find(from)) {
            int open = method.end() - 1;
            int end = closing(body, open);
            String takes = method.group(3).trim();
            int parameters = takes.isEmpty() ? 0 : takes.split(",").length;
            PARTS.add(new Part(name, method.group(2), parameters, body.substring(open, end), method.group(1).contains("private")));
            outside.append(body, from, method.start());
            from = end + 1;
        }
        outside.append(body.substring(from));
        Matcher field = Pattern.compile("\n +private (?!static)(?:final )?([\\w\\[\\]]+) (\\w+)( = [^;]+)?;").matcher(outside);
        while (field.find()) {
            fields++;
            CLASS_OF.put(field.group(2), field.group(1));
        }
        needs(fields <= MOST_FIELDS, name + " has " + fields + " fields");
        Matcher shared = Pattern.compile("\n +[\\w ]*\\bstatic\\b(?! final)[\\w \\[\\]]* (\\w+)( =|;)").matcher(outside);
        needs(!shared.find(), name + " has static state");
    }

    private static void takeClasses(String text) {
        Matcher nested = Pattern.compile("\n    static final class (\\w+) \\{").matcher(text);
        StringBuilder outer = new StringBuilder();
        int from = 0;
        int classes = 1;
        while (nested.find(from)) {
            int end = closing(text, nested.end() - 1);
            takeClass(nested.group(1), text.substring(nested.end(), end));
            outer.append(text, from, nested.start());
            from = end + 1;
            classes++;
        }
        takeClass("PathProver", outer.append(text.substring(from)).toString());
        needs(classes <= MOST_CLASSES, "there are " + classes + " classes");
    }

    /** The methods that a call can mean: by the class of what it is asked of, or all of that name. */
    private static List<Part> meant(Part caller, String receiver, String name) {
        List<Part> found = new ArrayList<>();
        String last = receiver.isEmpty() ? "" : receiver.substring(receiver.lastIndexOf('.', receiver.length() - 2) + 1, receiver.length() - 1);
        if (LIBRARY.contains(last)) {
            return found;
        }
        String owner = last.isEmpty() ? caller.owner() : CLASS_OF.get(last);
        for (Part part : PARTS) {
            if (part.name().equals(name) && part.owner().equals(owner)) {
                found.add(part);
            }
        }
        for (Part part : PARTS) {
            if (found.isEmpty() && part.name().equals(name)) {
                found.add(part);
            }
        }
        return found;
    }

    /** How many calls stand open at most, from a method on; a method that calls itself is counted once. */
    private static int depth(Part part, Set<Part> open) {
        Integer known = DEPTHS.get(part);
        if (known != null || !open.add(part)) {
            return known != null ? known : 0;
        }
        int most = 0;
        Matcher call = Pattern.compile("((?:\\w+\\.)*)\\b(\\w+)\\(").matcher(part.body());
        while (call.find()) {
            for (Part other : meant(part, call.group(1), call.group(2))) {
                most = Math.max(most, other.equals(part) ? 0 : depth(other, open));
            }
        }
        open.remove(part);
        DEPTHS.put(part, most + 1);
        return most + 1;
    }

    public static void main(String[] args) throws IOException {
        String text = plain(Copies.source());
        for (String one : FORBIDDEN) {
            Matcher found = Pattern.compile(one).matcher(text);
            needs(!found.find(), "there is " + one);
        }
        Matcher thrown = Pattern.compile("throw (?:new (\\w+)\\(\\))?").matcher(text);
        while (thrown.find()) {
            needs(thrown.group(1) != null && THROWN.contains(thrown.group(1)), "thrown is " + thrown.group(1));
        }
        takeClasses(text);
        for (Part part : PARTS) {
            String name = part.owner() + "." + part.name();
            int lines = part.body().split("\n").length + 1;
            int depth = depth(part, new HashSet<>());
            needs(part.parameters() <= MOST_PARAMETERS, name + " takes " + part.parameters() + " parameters");
            needs(lines <= MOST_LINES, name + " has " + lines + " lines");
            needs(depth <= MOST_DEEP, name + " goes " + depth + " deep");
            needs(!part.isPrivate() || !FACE.contains(part.name()), name + " is private and bears a name of the face");
        }
        needs(PARTS.size() > 200, "only " + PARTS.size() + " methods are found");
        System.out.println(wrong == 0 ? PARTS.size() + " methods keep to the rules" : wrong + " rules are broken");
        if (wrong != 0) {
            System.exit(1);
        }
    }
}
