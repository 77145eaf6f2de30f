import java.io.IOException;
import java.nio.file.Files;
import java.nio.file.Path;
import java.util.ArrayDeque;
import java.util.ArrayList;
import java.util.Deque;
import java.util.HashMap;
import java.util.HashSet;
import java.util.List;
import java.util.Map;
import java.util.Set;
import java.util.regex.Matcher;
import java.util.regex.Pattern;

/** The rules of LANGUAGE.md that can be read off the source by simple means. Runs in the project's directory. */
public final class LanguageTest {
    private static final Due due = new Due();
    private static final Set<String> NOT_CALLS = Set.of("if", "for", "while", "switch", "return");

    private static void words(String code) {
        Set<String> banned = Set.of("import", "package", "float", "double", "String", "Math", "Integer", "System",
            "Arrays", "Object", "null", "throw", "throws", "try", "catch", "synchronized", "assert", "instanceof",
            "protected", "interface", "enum", "record", "var", "super", "volatile", "transient", "native");
        Matcher m = Pattern.compile("[A-Za-z_]\\w*").matcher(code);
        while (m.find()) {
            due.is("the word " + m.group() + " stands in the source", banned.contains(m.group()), false);
        }
        due.is("a lambda or method reference", code.contains("->") || code.contains("::"), false);
        due.is("a text", code.contains("\""), false);
        due.is("array of arrays", Pattern.compile("\\]\\s*\\[").matcher(code).find(), false);
    }

    /** Every array is made once in a field's initialiser, with a length that is a literal or a constant. */
    private static void arrays(String code) {
        Pattern good = Pattern.compile("    private final (int|boolean)\\[\\] \\w+ = new \\1\\[([A-Z_]+|[1-9]\\d*)\\];");
        for (String line : code.split("\n")) {
            if (line.matches(".*\\bnew\\b.*")) {
                due.is("an array made as '" + line.trim() + "'", good.matcher(line).matches(), true);
            }
        }
    }

    private static void statics(String code) {
        Pattern constant = Pattern.compile("    (public|private) static final int [A-Z_]+ = -?\\d+;\\s*");
        Pattern method = Pattern.compile("    private static \\w+ \\w+\\(.*\\) \\{");
        for (String line : code.split("\n")) {
            if (line.matches(".*\\bstatic\\b.*")) {
                boolean good = constant.matcher(line).matches() || method.matcher(line).matches();
                due.is("a static as '" + line.trim() + "'", good, true);
            }
        }
    }

    /** No call stands inside the arguments of another call. */
    private static void nestedCalls(String line) {
        Deque<Boolean> open = new ArrayDeque<>();
        int calls = 0;
        Matcher m = Pattern.compile("(\\w*)\\s*\\(|\\)").matcher(line);
        while (m.find()) {
            if (m.group().equals(")")) {
                if (!open.isEmpty() && open.pop()) calls--;
                continue;
            }
            boolean call = !m.group(1).isEmpty() && !NOT_CALLS.contains(m.group(1));
            if (call) {
                due.is("a call inside arguments in '" + line.trim() + "'", calls > 0, false);
                calls++;
            }
            open.push(call);
        }
    }

    /** The methods' bodies by name; the source has its methods at one level of indentation. */
    private static Map<String, List<String>> bodies(String code) {
        Map<String, List<String>> bodies = new HashMap<>();
        Pattern head = Pattern.compile("    (?:public|private) (?:static )?(?:\\w+(?:\\[\\])? )?(\\w+)\\((.*)\\) \\{");
        List<String> body = null;
        for (String line : code.split("\n")) {
            Matcher m = head.matcher(line);
            if (m.matches()) {
                due.is("a second method " + m.group(1), bodies.containsKey(m.group(1)), false);
                due.is("parameters of " + m.group(1), m.group(2).split(",").length <= 7, true);
                body = new ArrayList<>();
                bodies.put(m.group(1), body);
            } else if (line.equals("    }")) {
                body = null;
            } else if (body != null) {
                body.add(line);
            }
        }
        return bodies;
    }

    /** How deep the calls go below a method; a method that calls itself in the end counts as 99. */
    private static int depth(String method, Map<String, List<String>> bodies, Set<String> above) {
        if (above.contains(method)) return 99;
        Set<String> here = new HashSet<>(above);
        here.add(method);
        int deepest = 0;
        for (String line : bodies.get(method)) {
            Matcher m = Pattern.compile("(\\w+)\\(").matcher(line);
            while (m.find()) {
                if (!bodies.containsKey(m.group(1))) {
                    due.is("a call to " + m.group(1) + ", which is not of the class", true, false);
                    continue;
                }
                deepest = Math.max(deepest, depth(m.group(1), bodies, here));
            }
        }
        return Math.min(99, deepest + 1);
    }

    public static void main(String[] args) throws IOException {
        String source = Files.readString(Path.of("src/main/java/QuicStreams.java"));
        String code = source.replaceAll("(?s)/\\*.*?\\*/", "").replaceAll("//[^\n]*", "");
        words(code);
        arrays(code);
        statics(code);
        for (String line : code.split("\n")) nestedCalls(line);
        Map<String, List<String>> bodies = bodies(code);
        due.is("methods found", bodies.size() > 16, true);
        for (String method : bodies.keySet()) {
            due.is("length of " + method, bodies.get(method).size() <= 60, true);
            due.is("depth of " + method, depth(method, bodies, Set.of()) <= 6, true);
        }
        int fields = QuicStreams.class.getDeclaredFields().length;
        for (var f : QuicStreams.class.getDeclaredFields()) {
            if (java.lang.reflect.Modifier.isStatic(f.getModifiers())) fields--;
        }
        due.is("fields beside the constants, " + fields, fields <= 40, true);
        due.finish();
    }
}
