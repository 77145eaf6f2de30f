import java.io.IOException;
import java.lang.reflect.Field;
import java.lang.reflect.Method;
import java.lang.reflect.Modifier;
import java.nio.file.Files;
import java.nio.file.Path;
import java.util.HashMap;
import java.util.Map;
import java.util.regex.Matcher;
import java.util.regex.Pattern;

/** README.md tells every method and constant, and its run answers as it says. Runs in the project's directory. */
public final class ReadmeTest {
    private static final Pattern MAKING = Pattern.compile("QuicStreams x = new QuicStreams\\((\\d+), (\\d+), (\\d+), (\\d+)\\);");
    private static final Pattern CALL = Pattern.compile("x\\.(\\w+)\\((.*?)\\); +// (-?\\w+)(:.*)?");
    private static final Due due = new Due();
    private static final Map<String, Method> METHODS = new HashMap<>();

    /** A number, a truth value or a constant's name, as the number that the class means by it. */
    private static int value(String text) throws ReflectiveOperationException {
        if (text.matches("-?\\d+")) return Integer.parseInt(text);
        if (text.equals("true") || text.equals("false")) return text.equals("true") ? 1 : 0;
        return QuicStreams.class.getField(text.replace("QuicStreams.", "")).getInt(null);
    }

    private static int ask(QuicStreams x, String name, String arguments) throws ReflectiveOperationException {
        Method method = METHODS.get(name);
        String[] texts = arguments.isEmpty() ? new String[0] : arguments.split(", ");
        Object[] values = new Object[texts.length];
        for (int i = 0; i < texts.length; i++) {
            boolean truth = method.getParameterTypes()[i] == boolean.class;
            values[i] = truth ? (Object) Boolean.valueOf(texts[i]) : (Object) value(texts[i]);
        }
        Object answer = method.invoke(x, values);
        return answer instanceof Boolean ? ((Boolean) answer ? 1 : 0) : (Integer) answer;
    }

    private static void run(String block) throws ReflectiveOperationException {
        String[] lines = block.split("\n");
        Matcher making = MAKING.matcher(lines[0]);
        due.is("the run begins with an object", making.matches(), true);
        QuicStreams x = new QuicStreams(value(making.group(1)), value(making.group(2)), value(making.group(3)),
            value(making.group(4)));
        for (int i = 1; i < lines.length; i++) {
            Matcher call = CALL.matcher(lines[i]);
            boolean plain = call.matches() && METHODS.containsKey(call.group(1));
            due.is("a call and its answer stand in '" + lines[i] + "'", plain, true);
            if (plain) due.is("README.md: " + lines[i], ask(x, call.group(1), call.group(2)), value(call.group(3)));
        }
    }

    private static void names(String readme, String block) {
        for (Method method : METHODS.values()) {
            int count = method.getParameterCount();
            String parameters = count == 0 ? "" : "\\w+(, \\w+){" + (count - 1) + "}";
            Pattern row = Pattern.compile("\\| `" + method.getName() + "\\(" + parameters + "\\)` \\|");
            due.is(method.getName() + " has its row", row.matcher(readme).find(), true);
            due.is(method.getName() + " is called in the run", block.contains("x." + method.getName() + "("), true);
        }
        for (Field field : QuicStreams.class.getFields()) {
            due.is(field.getName() + " is told", readme.contains("`" + field.getName() + "`"), true);
        }
        due.is("the command that runs the tests is told", readme.contains("\n    .ci/run\n"), true);
    }

    public static void main(String[] args) throws IOException, ReflectiveOperationException {
        for (Method method : QuicStreams.class.getDeclaredMethods()) {
            if (Modifier.isPublic(method.getModifiers())) METHODS.put(method.getName(), method);
        }
        String readme = Files.readString(Path.of("README.md"));
        Matcher block = Pattern.compile("(?s)```java\n(.*?)```").matcher(readme);
        due.is("a run stands in README.md", block.find(), true);
        names(readme, block.group(1));
        run(block.group(1));
        due.is("a second run, which is not tried", block.find(), false);
        due.finish();
    }
}
