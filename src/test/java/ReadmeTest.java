import java.io.IOException;
import java.lang.reflect.Method;
import java.nio.file.Files;
import java.nio.file.Path;
import java.util.HashMap;
import java.util.HashSet;
import java.util.List;
import java.util.Map;
import java.util.Set;
import java.util.regex.Matcher;
import java.util.regex.Pattern;

/**
 * Plays the runs that README.md shows: each line of them is a new object or a call with its answer behind it, and a line
 * of another form is a fault, as nothing would look at what it shows.
 */
public final class ReadmeTest {
    private static final Pattern CALL =
            Pattern.compile("(?:int (?<name>\\w+) = )?x\\.(?<call>\\w+)\\((?<arguments>[^()]*)\\);\\s+// (?<answer>-?\\w+)(?:: .+)?");
    private static final String NEW_OBJECT = "CallWays2 x = new CallWays2();";

    private final Set<String> shown = new HashSet<>();
    private Map<String, Long> variables = new HashMap<>();
    private CallWays2 x;

    public static void main(String[] args) throws IOException, ReflectiveOperationException {
        ReadmeTest test = new ReadmeTest();
        test.playRuns(Files.readAllLines(Path.of("README.md")));
        for (Method m : faceOf()) {
            Checks.due("README.md shows " + m.getName() + "()", test.shown.contains(m.getName()), true);
        }
        Checks.end();
    }

    private static List<Method> faceOf() {
        return List.of(CallWays2.class.getMethods()).stream().filter(m -> m.getDeclaringClass() == CallWays2.class).toList();
    }

    private void playRuns(List<String> lines) throws ReflectiveOperationException {
        boolean inRun = false;
        for (int i = 0; i < lines.size(); i++) {
            String line = lines.get(i);
            if (line.startsWith("```")) {
                inRun = line.equals("```java");
                x = null;
            } else if (inRun) {
                play("README.md, line " + (i + 1) + ", " + line.split(";")[0], line);
            }
        }
    }

    private void play(String where, String line) throws ReflectiveOperationException {
        if (line.equals(NEW_OBJECT)) {
            x = new CallWays2();
            variables = new HashMap<>();
            return;
        }
        Matcher parts = CALL.matcher(line);
        boolean read = parts.matches() && x != null;
        Checks.due(where + ": is a call with its answer, behind a new object", read, true);
        if (read) {
            long got = answer(parts.group("call"), parts.group("arguments"));
            Checks.due(where, got, value(parts.group("answer"), method(parts.group("call")).getReturnType()));
            if (parts.group("name") != null) {
                variables.put(parts.group("name"), got);
            }
        }
    }

    private long answer(String call, String arguments) throws ReflectiveOperationException {
        shown.add(call);
        String[] texts = arguments.isEmpty() ? new String[0] : arguments.split(", ");
        Method method = method(call);
        Object[] values = new Object[texts.length];
        for (int k = 0; k < texts.length; k++) {
            long value = value(texts[k], method.getParameterTypes()[k]);
            values[k] = method.getParameterTypes()[k] == boolean.class ? (Object) (value == 1) : (Object) (int) value;
        }
        Object got = method.invoke(x, values);
        return got instanceof Boolean ? ((Boolean) got ? 1 : 0) : ((Number) got).longValue();
    }

    private static Method method(String name) {
        return faceOf().stream().filter(m -> m.getName().equals(name)).findFirst().orElseThrow();
    }

    /** Of a boolean type true or false (1, 0), else a variable of the run, a constant of the face, or a number. */
    private long value(String text, Class<?> type) throws ReflectiveOperationException {
        if (type == boolean.class) {
            return List.of("false", "true").indexOf(text);
        }
        if (variables.containsKey(text)) {
            return variables.get(text);
        }
        return text.matches("[A-Z]+") ? CallWays2.class.getField(text).getInt(null) : Long.parseLong(text);
    }
}
