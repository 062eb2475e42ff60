import java.io.IOException;
import java.lang.reflect.InvocationTargetException;
import java.lang.reflect.Method;
import java.lang.reflect.Modifier;
import java.nio.file.Files;
import java.nio.file.Path;
import java.util.HashMap;
import java.util.List;
import java.util.Map;
import java.util.TreeSet;
import java.util.regex.Matcher;
import java.util.regex.Pattern;

/**
 * README.md: each call of its java blocks answers what the page names behind it. The page itself is read, from the
 * folder that the test is started in, so that what it shows can't part from what is tried.
 */
public final class ReadmeTest {
    private static final String NEW_OBJECT = "BillMatch x = new BillMatch();";
    private static final Pattern CALL = Pattern.compile(
        "(?:(?<type>int|boolean) (?<name>\\w+) = )?x\\.(?<method>\\w+)\\((?<arguments>[^()]*)\\);"
        + "\\s+// (?<answer>throws \\w+|-?\\d+|true|false)(?:: .+)?");
    private static final Expect EXPECT = new Expect("README.md");

    private final Map<String, Integer> names = new HashMap<>();
    private final TreeSet<String> shown = new TreeSet<>();
    private BillMatch x = null;

    public static void main(String[] args) throws IOException {
        ReadmeTest test = new ReadmeTest();
        test.names.put("BillMatch.NONE", BillMatch.NONE);
        test.tryBlocks(Files.readAllLines(Path.of("README.md")));
        EXPECT.same("the methods that the page shows", methodsOfTheFace().toString(), test.shown.toString());
        EXPECT.end();
    }

    private static TreeSet<String> methodsOfTheFace() {
        TreeSet<String> names = new TreeSet<>();
        for (Method method : BillMatch.class.getDeclaredMethods()) {
            if (Modifier.isPublic(method.getModifiers())) {
                names.add(method.getName());
            }
        }
        return names;
    }

    private void tryBlocks(List<String> page) {
        boolean inBlock = false;
        for (String line : page) {
            if (line.startsWith("```")) {
                inBlock = line.equals("```java");
            } else if (inBlock && line.equals(NEW_OBJECT)) {
                x = new BillMatch();
            } else if (inBlock && !line.isBlank()) {
                tryLine(line);
            }
        }
    }

    /** A line that can't be read is a wrong one: it would show what no test tries. */
    private void tryLine(String line) {
        Matcher call = CALL.matcher(line);
        Method method = call.matches() && x != null ? methodNamed(call.group("method")) : null;
        if (method == null) {
            EXPECT.same(line, "a call on an object, and its answer", "something else");
            return;
        }
        shown.add(method.getName());
        if (call.group("type") != null) {
            EXPECT.same("type in " + line, method.getReturnType().getName(), call.group("type"));
        }
        String answer = answerOf(method, call.group("arguments").split(", "));
        EXPECT.same(line, call.group("answer"), answer);
        if (call.group("name") != null) {
            names.put(call.group("name"), Integer.valueOf(answer));
        }
    }

    private static Method methodNamed(String name) {
        for (Method method : BillMatch.class.getDeclaredMethods()) {
            if (Modifier.isPublic(method.getModifiers()) && method.getName().equals(name)) {
                return method;
            }
        }
        return null;
    }

    private String answerOf(Method method, String[] arguments) {
        Object[] values = new Object[arguments.length];
        for (int i = 0; i < values.length; i++) {
            Integer named = names.get(arguments[i]);
            values[i] = named != null ? named : Integer.valueOf(arguments[i]);
        }
        try {
            return String.valueOf(method.invoke(x, values));
        } catch (InvocationTargetException e) {
            return "throws " + e.getCause().getClass().getSimpleName();
        } catch (IllegalAccessException e) {
            return e.toString();
        }
    }
}
