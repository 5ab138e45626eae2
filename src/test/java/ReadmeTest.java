import java.lang.reflect.InvocationTargetException;
import java.lang.reflect.Method;
import java.lang.reflect.Modifier;
import java.nio.file.Path;
import java.util.LinkedHashMap;
import java.util.Map;
import java.util.TreeSet;
import java.util.regex.Matcher;
import java.util.regex.Pattern;

/** README.md: its example is done call by call, and its table names each call of the face. */
public final class ReadmeTest extends Checks {
    private static final String README = contentOf(Path.of("README.md"));
    private static final Pattern CALL = Pattern.compile("page\\.(\\w+)\\((.*?)\\); +// ([-\\w]+).*");

    public static void main(String[] args) throws IllegalAccessException {
        under("README.md");
        example();
        table();
        finish();
    }

    private static void example() throws IllegalAccessException {
        Map<String, Method> calls = calls();
        RingedPage x = new RingedPage();
        int done = 0;
        String[] lines = between(README, "```java\n", "\n```").split("\n");
        due("its first line", lines[0], "RingedPage page = new RingedPage();");
        for (int i = 1; i < lines.length; i++) {
            Matcher call = CALL.matcher(lines[i]);
            due("a call with its answer: " + lines[i], call.matches(), true);
            if (call.matches() && calls.containsKey(call.group(1))) {
                due(lines[i], answer(x, calls.get(call.group(1)), call.group(2)), call.group(3));
                done++;
            }
        }
        due("calls that were done", done, lines.length - 1);
    }

    private static Map<String, Method> calls() {
        Map<String, Method> calls = new LinkedHashMap<>();
        for (Method m : RingedPage.class.getDeclaredMethods()) {
            if (Modifier.isPublic(m.getModifiers())) {
                calls.put(m.getName(), m);
            }
        }
        return calls;
    }

    private static String answer(RingedPage x, Method call, String written) throws IllegalAccessException {
        String[] parts = written.isEmpty() ? new String[0] : written.split(", ");
        Object[] arguments = new Object[parts.length];
        for (int i = 0; i < parts.length; i++) {
            arguments[i] = Integer.decode(parts[i]);
        }
        try {
            return String.valueOf(call.invoke(x, arguments));
        } catch (InvocationTargetException e) {
            return e.getCause().getClass().getSimpleName();
        }
    }

    private static void table() {
        TreeSet<String> named = new TreeSet<>();
        Matcher name = Pattern.compile("`(\\w+)`").matcher(between(README, "| calls | what they do |\n", "\n\n"));
        while (name.find()) {
            due("named once: " + name.group(1), named.add(name.group(1)), true);
        }
        due("the calls of the table", named, new TreeSet<>(calls().keySet()));
    }
}
