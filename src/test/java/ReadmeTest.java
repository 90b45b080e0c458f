import java.io.IOException;
import java.lang.reflect.Method;
import java.nio.file.Files;
import java.nio.file.Path;
import java.util.List;
import java.util.regex.Matcher;
import java.util.regex.Pattern;

/** What README.md says of the class: its example's answers, its table of calls, its constants. */
public final class ReadmeTest {
    private static final Checks CHECKS = new Checks();
    private static final Pattern CALL = Pattern.compile("x\\.(\\w+)\\(([^)]*)\\); +// (-?\\d+|[A-Z]+)\\b.*");
    private static final Pattern CONSTANT = Pattern.compile("`([A-Z]+)`\\s(?:is |\\()?(-\\d+)");
    private static final Pattern ROW = Pattern.compile("\\| `(\\w+)\\(([^)]*)\\)` \\|.*");

    public static void main(String[] args) throws ReflectiveOperationException, IOException {
        String readme = Files.readString(Path.of("README.md"));
        int start = readme.indexOf("```java\n") + "```java\n".length();
        example(readme.substring(start, readme.indexOf("```", start)).lines().toList());
        table(readme.lines().toList());
        constants(readme);
        CHECKS.end();
    }

    private static void example(List<String> lines) throws ReflectiveOperationException {
        DisturbedCells x = new DisturbedCells();
        int calls = 0;
        for (String line : lines) {
            Matcher m = CALL.matcher(line);
            CHECKS.holds("a call with its answer: " + line, m.matches() || line.isBlank() || line.contains(" = new "));
            if (m.matches()) {
                CHECKS.due(line, answer(x, m.group(1), m.group(2)), number(m.group(3)));
                calls++;
            }
        }
        CHECKS.holds("the example has calls", calls > 0);
    }

    private static long answer(DisturbedCells x, String name, String arguments) throws ReflectiveOperationException {
        String[] texts = arguments.isEmpty() ? new String[0] : arguments.split(", ");
        Object[] numbers = new Object[texts.length];
        for (int i = 0; i < texts.length; i++) {
            numbers[i] = texts[i].startsWith("'") ? texts[i].charAt(1) : Integer.parseInt(texts[i]);
        }
        return ((Number) method(name).invoke(x, numbers)).longValue();
    }

    private static Method method(String name) throws ReflectiveOperationException {
        for (Method m : DisturbedCells.class.getDeclaredMethods()) {
            if (m.getName().equals(name)) return m;
        }
        throw new NoSuchMethodException(name);
    }

    private static long number(String text) throws ReflectiveOperationException {
        boolean isName = Character.isLetter(text.charAt(0));
        return isName ? DisturbedCells.class.getField(text).getInt(null) : Long.parseLong(text);
    }

    private static void table(List<String> lines) throws ReflectiveOperationException {
        int rows = 0;
        for (String line : lines) {
            Matcher m = ROW.matcher(line);
            if (!m.matches()) continue;
            int parameters = m.group(2).isEmpty() ? 0 : m.group(2).split(", ").length;
            CHECKS.due("parameters of " + m.group(1), parameters, method(m.group(1)).getParameterCount());
            rows++;
        }
        CHECKS.due("calls in the table", rows, 15);
    }

    private static void constants(String readme) throws ReflectiveOperationException {
        int named = 0;
        for (Matcher m = CONSTANT.matcher(readme); m.find(); named++) {
            CHECKS.due(m.group(1), number(m.group(1)), Long.parseLong(m.group(2)));
        }
        CHECKS.due("constants named", named, 5);
    }
}
