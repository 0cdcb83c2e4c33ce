import java.io.IOException;
import java.nio.file.Files;
import java.nio.file.Path;
import java.util.regex.Matcher;
import java.util.regex.Pattern;

/** Makes the calls of README.md as they stand there; each has the answer that the README puts behind it. */
public final class ReadmeTest {
    private static final Pattern TYPED = Pattern.compile("String text = \"(.*)\";");
    private static final Pattern CALL = Pattern.compile("comparer\\.(\\w+)\\(([0-9, ]*)\\);\\s*// (-?\\d+)\\b.*");
    private static final int CALLS = 16;

    public static void main(String[] args) throws IOException, ReflectiveOperationException {
        Check check = new Check("README.md");
        String readme = Files.readString(Path.of("README.md"));
        PolicyComparer x = new PolicyComparer();
        int calls = 0;
        for (String line : example(readme).split("\n")) {
            Matcher typed = TYPED.matcher(line);
            if (typed.matches()) {
                Check.type(x, typed.group(1));
            }
            Matcher call = CALL.matcher(line);
            if (call.matches()) {
                calls++;
                check.due(line, answer(x, call.group(1), call.group(2)), Integer.parseInt(call.group(3)));
            }
        }
        check.due("the calls of the example", calls, CALLS);
        namesTheTests(check, readme);
        Check.finish(check);
    }

    private static String example(String readme) {
        int start = readme.indexOf("```java\n");
        int end = readme.indexOf("```\n", start + 1);
        return start < 0 || end < 0 ? "" : readme.substring(start, end);
    }

    private static int answer(PolicyComparer x, String name, String list) throws ReflectiveOperationException {
        String[] numbers = list.isBlank() ? new String[0] : list.split(", ");
        Class<?>[] types = new Class<?>[numbers.length];
        Object[] values = new Object[numbers.length];
        for (int i = 0; i < numbers.length; i++) {
            types[i] = int.class;
            values[i] = Integer.valueOf(numbers[i]);
        }
        return (Integer) PolicyComparer.class.getMethod(name, types).invoke(x, values);
    }

    private static void namesTheTests(Check check, String readme) throws IOException {
        check.holds("the README says how to run the tests", readme.contains("bash .ci/run"));
        try (var files = Files.list(Path.of("src/test/java"))) {
            for (Path file : files.sorted().toList()) {
                String name = file.getFileName().toString().replace(".java", "");
                check.holds("the README names " + name, readme.contains("`" + name + "`"));
            }
        }
    }
}
