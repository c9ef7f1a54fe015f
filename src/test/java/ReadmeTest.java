import java.io.IOException;
import java.lang.reflect.Method;
import java.nio.file.Files;
import java.nio.file.Path;
import java.util.HashMap;
import java.util.Map;
import java.util.regex.Matcher;
import java.util.regex.Pattern;

/** Does the calls of README.md's example: each has to answer the number that its remark begins with. */
public final class ReadmeTest {
    private static final Pattern CALL =
        Pattern.compile("(?:int (\\w+) = )?x\\.(\\w+)\\(([^)]*)\\); *// (-?\\d+)\\b.*");
    private static final String MADE = "CellCover x = new CellCover();";

    private final Checks checks = new Checks();
    private final CellCover x = new CellCover();
    private final Map<String, Integer> numbers = new HashMap<>();

    private ReadmeTest() {
    }

    private long number(String text) {
        String plain = text.trim().replace("L", "");
        return numbers.containsKey(plain) ? numbers.get(plain) : Long.decode(plain);
    }

    private static Method methodOf(String name) {
        for (Method m : CellCover.class.getMethods()) {
            if (m.getName().equals(name)) {
                return m;
            }
        }
        throw new IllegalArgumentException("no such call: " + name);
    }

    private long answer(String name, String list) throws ReflectiveOperationException {
        Method m = methodOf(name);
        String[] texts = list.isEmpty() ? new String[0] : list.split(",");
        Object[] values = new Object[texts.length];
        for (int i = 0; i < texts.length; i++) {
            long value = number(texts[i]);
            if (m.getParameterTypes()[i] == long.class) {
                values[i] = value;
            } else {
                values[i] = Math.toIntExact(value);
            }
        }
        return ((Number) m.invoke(x, values)).longValue();
    }

    private void line(String line) throws ReflectiveOperationException {
        Matcher m = CALL.matcher(line);
        boolean isCall = m.matches();
        checks.holds("a call with its answer: " + line, isCall);
        if (isCall) {
            long got = answer(m.group(2), m.group(3));
            checks.due(line, got, Long.parseLong(m.group(4)));
            if (m.group(1) != null) {
                numbers.put(m.group(1), (int) got);
            }
        }
    }

    public static void main(String[] args) throws IOException, ReflectiveOperationException {
        ReadmeTest test = new ReadmeTest();
        String readme = Files.readString(Path.of("README.md"));
        String[] parts = readme.split("```java\n");
        test.checks.due("examples in README.md", parts.length - 1, 1);
        for (String line : parts[1].substring(0, parts[1].indexOf("```")).split("\n")) {
            if (!line.isBlank() && !line.equals(MADE)) {
                test.line(line);
            }
        }
        test.checks.end();
    }
}
