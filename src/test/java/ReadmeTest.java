import java.io.IOException;
import java.lang.reflect.Method;
import java.lang.reflect.Modifier;
import java.nio.file.Files;
import java.nio.file.Path;
import java.util.regex.Matcher;
import java.util.regex.Pattern;

/** README.md tells the class as it is: its example answers what it says, and its table names every call. */
public final class ReadmeTest {
    private static final Pattern TEXT = Pattern.compile("for \\(char letter : \"([^\"]*)\"");
    private static final Pattern CALL = Pattern.compile("x\\.(\\w+)\\(([^)]*)\\); +// (-?\\d+):.*");

    private final Checks checks = new Checks();
    private final String readme;

    private ReadmeTest(String readme) {
        this.readme = readme;
    }

    public static void main(String[] args) throws IOException, ReflectiveOperationException {
        ReadmeTest test = new ReadmeTest(Files.readString(Path.of("README.md")));
        test.example();
        test.table();
        test.checks.end();
    }

    private void example() throws ReflectiveOperationException {
        int from = readme.indexOf("```java\n");
        int to = readme.indexOf("\n```\n", from);
        checks.holds("README.md has an example", from >= 0 && to > from);
        if (from < 0 || to <= from) {
            return;
        }
        ArcRings x = new ArcRings();
        int calls = 0;
        for (String line : readme.substring(from, to).split("\n")) {
            Matcher text = TEXT.matcher(line);
            Matcher call = CALL.matcher(line);
            if (text.find()) {
                Sheets.type(x, text.group(1));
            } else if (call.matches()) {
                checks.due("README.md: " + line.trim(), Long.parseLong(call.group(3)), answer(x, call.group(1), call.group(2)));
                calls++;
            } else {
                checks.holds("README.md: no call with an answer: " + line,
                    line.equals("```java") || line.equals("ArcRings x = new ArcRings();"));
            }
        }
        checks.holds("the example has calls", calls > 0);
    }

    private static long answer(ArcRings x, String name, String list) throws ReflectiveOperationException {
        String[] words = list.isEmpty() ? new String[0] : list.split(", ");
        Class<?>[] types = new Class<?>[words.length];
        Object[] numbers = new Object[words.length];
        for (int i = 0; i < words.length; i++) {
            types[i] = int.class;
            numbers[i] = Integer.valueOf(words[i]);
        }
        return ((Number) ArcRings.class.getMethod(name, types).invoke(x, numbers)).longValue();
    }

    private void table() {
        StringBuilder rows = new StringBuilder();
        for (String line : readme.split("\n")) {
            if (line.startsWith("| `")) {
                rows.append(line);
            }
        }
        for (Method method : ArcRings.class.getDeclaredMethods()) {
            if (Modifier.isPublic(method.getModifiers())) {
                checks.holds("the table of README.md names " + method.getName(),
                    rows.indexOf("`" + method.getName() + "`") >= 0);
            }
        }
    }
}
