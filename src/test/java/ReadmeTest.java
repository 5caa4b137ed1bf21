import java.io.File;
import java.lang.reflect.Method;
import java.nio.file.Files;
import java.nio.file.Path;
import java.util.Arrays;
import java.util.regex.Matcher;
import java.util.regex.Pattern;

/** README.md: its example is run, and each call and each test must be told there. */
public final class ReadmeTest {
    private static final Pattern EXAMPLE = Pattern.compile("(?s)```java\n(.*?)```");
    private static final Pattern CALL =
        Pattern.compile("valley\\.(\\w+)\\(([^)]*)\\); +// (true|false|NONE|\\d+)(: .+)?");

    public static void main(String[] args) throws Exception {
        String readme = Files.readString(Path.of("README.md"));
        example(readme);
        everyCallIsTold(readme);
        everyTestIsTold(readme);
        Checks.finish();
    }

    private static void example(String readme) throws ReflectiveOperationException {
        Matcher example = EXAMPLE.matcher(readme);
        Checks.due("there is an example", example.find(), true);
        String[] lines = example.group(1).split("\n");
        Checks.due("it makes an object first",
            lines[0].equals("GlassValley valley = new GlassValley();"), true);
        GlassValley valley = new GlassValley();
        for (String line : Arrays.copyOfRange(lines, 1, lines.length)) {
            if (!line.isEmpty()) {
                callOf(valley, line);
            }
        }
    }

    private static void callOf(GlassValley valley, String line) throws ReflectiveOperationException {
        Matcher call = CALL.matcher(line);
        Checks.due("a call and its answer: " + line, call.matches(), true);
        if (call.matches()) {
            Object[] numbers = numbersOf(call.group(2));
            Class<?>[] kinds = new Class<?>[numbers.length];
            Arrays.fill(kinds, int.class);
            Method method = GlassValley.class.getMethod(call.group(1), kinds);
            String answer = String.valueOf(method.invoke(valley, numbers));
            String told = call.group(3).equals("NONE") ? "-1" : call.group(3);
            Checks.due("answered " + answer + ": " + line, answer.equals(told), true);
        }
    }

    private static Object[] numbersOf(String arguments) {
        if (arguments.isEmpty()) {
            return new Object[0];
        }
        return Arrays.stream(arguments.split(",")).map(ReadmeTest::sumOf).toArray();
    }

    private static Integer sumOf(String argument) {
        return Arrays.stream(argument.split("\\+")).mapToInt(part -> Integer.decode(part.trim())).sum();
    }

    private static void everyCallIsTold(String readme) {
        for (Method method : GlassValley.class.getMethods()) {
            if (method.getDeclaringClass() == GlassValley.class) {
                String[] numbers = new String[method.getParameterCount()];
                Arrays.fill(numbers, "int \\w+");
                Pattern told = Pattern.compile("\\| `" + method.getReturnType() + " " + method.getName()
                    + "\\(" + String.join(", ", numbers) + "\\)` \\|");
                Checks.due("README.md tells of " + method.getName(), told.matcher(readme).find(), true);
                Checks.due("its example uses " + method.getName(),
                    readme.contains("\nvalley." + method.getName() + "("), true);
            }
        }
    }

    private static void everyTestIsTold(String readme) {
        File[] tests = new File("src/test/java").listFiles((folder, name) -> name.endsWith("Test.java"));
        Checks.due("there are tests", tests != null && tests.length > 0, true);
        for (File test : tests) {
            String name = test.getName().replace(".java", "");
            Checks.due("README.md tells of " + name, readme.contains("| `" + name + "` |"), true);
        }
    }
}
