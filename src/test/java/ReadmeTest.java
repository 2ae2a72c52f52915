import java.io.IOException;
import java.lang.reflect.Method;
import java.lang.reflect.Modifier;
import java.nio.file.Files;
import java.nio.file.Path;
import java.util.List;
import java.util.regex.Matcher;
import java.util.regex.Pattern;

/** Makes the calls that README.md shows, in their order; each must answer what stands behind it. */
public final class ReadmeTest {
    private static final Pattern CALL = Pattern.compile("tester\\.(\\w+)\\(([-0-9, ]*)\\); +// (-?[0-9]+): .*");
    private static final Pattern TEXT = Pattern.compile("for \\(char sign : \"(.*)\"\\.toCharArray\\(\\)\\) \\{");

    private ReadmeTest() {
    }

    public static void main(String[] args) throws IOException, ReflectiveOperationException {
        List<String> lines = Files.readAllLines(Path.of("README.md"));
        int start = lines.indexOf("```java");
        int length = start < 0 ? -1 : lines.subList(start, lines.size()).indexOf("```");
        Check.dueTrue("README.md shows code", length > 0);
        if (length > 0) {
            makeCalls(lines.subList(start + 1, start + length));
        }
        nameAllCalls(String.join("\n", lines));
        Check.finish();
    }

    /** A line that shows a call in another form would go untested: it is not as due. */
    private static void makeCalls(List<String> lines) throws ReflectiveOperationException {
        CableTester tester = new CableTester();
        for (String line : lines) {
            Matcher call = CALL.matcher(line);
            Matcher text = TEXT.matcher(line);
            if (call.matches()) {
                long want = Long.parseLong(call.group(3));
                Check.due(line, answer(tester, call.group(1), call.group(2)), want);
            } else if (text.matches()) {
                Check.type(tester, text.group(1));
            } else {
                Check.dueTrue("tested: " + line, !line.startsWith("tester.") && !line.startsWith("for "));
            }
        }
    }

    private static long answer(CableTester tester, String name, String arguments) throws ReflectiveOperationException {
        String[] words = arguments.isEmpty() ? new String[0] : arguments.split(", ");
        Class<?>[] types = new Class<?>[words.length];
        Object[] values = new Object[words.length];
        for (int i = 0; i < words.length; i++) {
            types[i] = int.class;
            values[i] = Integer.valueOf(words[i]);
        }
        return ((Number) CableTester.class.getMethod(name, types).invoke(tester, values)).longValue();
    }

    private static void nameAllCalls(String page) {
        for (Method method : CableTester.class.getDeclaredMethods()) {
            if (Modifier.isPublic(method.getModifiers())) {
                Check.dueTrue("README.md names " + method.getName(), page.contains("`" + method.getName() + "`"));
            }
        }
    }
}
