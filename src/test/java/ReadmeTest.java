import java.io.IOException;
import java.lang.reflect.InvocationTargetException;
import java.lang.reflect.Method;
import java.nio.charset.StandardCharsets;
import java.nio.file.Files;
import java.nio.file.Path;
import java.util.HashSet;
import java.util.Set;
import java.util.regex.Matcher;
import java.util.regex.Pattern;

/** What README.md shows as an example is what the program answers, and it names every call and every test. */
public final class ReadmeTest {
    private static final Check CHECK = new Check("ReadmeTest");
    private static final Pattern CALL =
        Pattern.compile("(int|long) (\\w+) = x\\.(\\w+)\\(([-0-9, ]*)\\); +// (-?\\d+)(?::.*)?");
    private static final Pattern TEXT = Pattern.compile("for \\(char sign : \"([^\"]*)\"\\.toCharArray\\(\\)\\) \\{");
    private static final Pattern FEED = Pattern.compile("    x\\.feed\\(sign\\);(?: +//.*)?");

    private final LittleLeft x = new LittleLeft();
    private final Set<String> named = new HashSet<>();
    private int calls = 0;
    private int answers = 0;

    public static void main(String[] args) throws IOException, ReflectiveOperationException {
        String readme = Files.readString(Path.of("README.md"), StandardCharsets.US_ASCII);
        Matcher block = Pattern.compile("(?s)```java\n(.*?)```").matcher(readme);
        int blocks = 0;
        while (block.find()) {
            new ReadmeTest().example(block.group(1).split("\n"));
            blocks++;
        }
        CHECK.due("examples", blocks, 1);
        namesAll(readme);
        CHECK.end();
    }

    /** Every line is known here, so that nothing stands in the example that was not asked. */
    private void example(String[] lines) throws ReflectiveOperationException {
        CHECK.due(lines[0], lines[0].equals("LittleLeft x = new LittleLeft();") ? 1 : 0, 1);
        for (int i = 1; i < lines.length; i++) {
            Matcher text = TEXT.matcher(lines[i]);
            if (text.matches() && i + 2 < lines.length) {
                CHECK.due(lines[i + 1], FEED.matcher(lines[i + 1]).matches() && lines[i + 2].equals("}") ? 1 : 0, 1);
                Check.feed(x, text.group(1));
                calls += text.group(1).length();
                i += 2;
            } else if (!lines[i].isEmpty()) {
                call(lines[i]);
            }
        }
        CHECK.due("more than ten answers are shown", answers > 10 ? 1 : 0, 1);
        CHECK.due("the example has 512 calls at most", calls <= 512 ? 1 : 0, 1);
    }

    private void call(String line) throws ReflectiveOperationException {
        Matcher call = CALL.matcher(line);
        if (!call.matches()) {
            CHECK.due(line + " is a call with its answer", 0, 1);
            return;
        }
        String[] given = call.group(4).isEmpty() ? new String[0] : call.group(4).split(", ");
        Method method = method(call.group(3), given.length);
        if (method == null) {
            CHECK.due(line + " is a call of the class", 0, 1);
            return;
        }
        CHECK.due(line + " has its type", method.getReturnType().getName().equals(call.group(1)) ? 1 : 0, 1);
        CHECK.due(line + " has a name of its own", named.add(call.group(2)) ? 1 : 0, 1);
        CHECK.due(line, answer(method, given), Long.parseLong(call.group(5)));
        calls++;
        answers++;
    }

    private static Method method(String name, int parameters) {
        for (Method m : LittleLeft.class.getDeclaredMethods()) {
            if (m.getName().equals(name) && m.getParameterCount() == parameters) {
                return m;
            }
        }
        return null;
    }

    private long answer(Method method, String[] given) throws IllegalAccessException, InvocationTargetException {
        Object[] with = new Object[given.length];
        for (int k = 0; k < with.length; k++) {
            long n = Long.parseLong(given[k]);
            with[k] = method.getParameterTypes()[k] == int.class ? (Object) (int) n : (Object) n;
        }
        return ((Number) method.invoke(x, with)).longValue();
    }

    private static void namesAll(String readme) throws IOException {
        CHECK.due("it says for how many calls an object is", readme.contains("at most 512 calls") ? 1 : 0, 1);
        CHECK.due("it says how the tests are run", readme.contains("\n    bash .ci/run\n") ? 1 : 0, 1);
        for (Method m : LittleLeft.class.getMethods()) {
            if (m.getDeclaringClass() == LittleLeft.class) {
                CHECK.due("it names " + m.getName(), readme.contains("`" + m.getName() + "`") ? 1 : 0, 1);
            }
        }
        try (var tests = Files.newDirectoryStream(Path.of("src/test/java"), "*Test.java")) {
            for (Path test : tests) {
                String name = test.getFileName().toString().replace(".java", "");
                boolean told = readme.contains(name) || name.startsWith("Edges");
                CHECK.due("it names " + name, told ? 1 : 0, 1);
            }
        }
    }
}
