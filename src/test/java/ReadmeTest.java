import java.io.IOException;
import java.lang.reflect.Method;
import java.nio.file.Files;
import java.nio.file.Path;
import java.util.List;
import java.util.regex.Matcher;
import java.util.regex.Pattern;
import java.util.stream.Stream;

/** What README.md says: that the answers of its example are so, and that it names each test. Its argument is the project's folder. */
public final class ReadmeTest {
    private static final Check CHECK = new Check("ReadmeTest");
    private static final Pattern CALL = Pattern.compile("x\\.(\\w+)\\(([^)]*)\\);(?: *// (-?\\d+).*)?");

    public static void main(String[] args) throws Exception {
        Path root = Path.of(args.length > 0 ? args[0] : ".");
        List<String> lines = Files.readAllLines(root.resolve("README.md"));
        example(lines);
        tests(root, lines);
        CHECK.close();
    }

    /** Each call of the example; one with a number behind it answers that. */
    private static void example(List<String> lines) throws ReflectiveOperationException {
        HeadCounts x = new HeadCounts();
        int asked = 0;
        for (String line : lines) {
            Matcher call = CALL.matcher(line);
            if (call.matches()) {
                Object answer = answer(x, call.group(1), call.group(2));
                if (call.group(3) != null) {
                    CHECK.due(line, answer.toString().equals(call.group(3)), true);
                    asked++;
                }
            }
        }
        CHECK.due("the example asks", asked > 4, true);
    }

    private static Object answer(HeadCounts x, String name, String arguments) throws ReflectiveOperationException {
        String[] texts = arguments.isEmpty() ? new String[0] : arguments.split(", ");
        Object[] values = new Object[texts.length];
        for (int i = 0; i < texts.length; i++) {
            boolean isBoolean = texts[i].equals("true") || texts[i].equals("false");
            values[i] = isBoolean ? (Object) Boolean.valueOf(texts[i]) : (Object) Integer.decode(texts[i]);
        }
        for (Method m : HeadCounts.class.getMethods()) {
            if (m.getName().equals(name)) {
                return m.invoke(x, values);
            }
        }
        throw new NoSuchMethodException(name);
    }

    private static void tests(Path root, List<String> lines) throws IOException {
        try (Stream<Path> files = Files.list(root.resolve("src/test/java"))) {
            for (Path file : files.toList()) {
                String name = file.getFileName().toString().replace(".java", "");
                if (name.endsWith("Test")) {
                    CHECK.due("README names " + name, lines.stream().anyMatch(line -> line.startsWith("| " + name + " |")), true);
                }
            }
        }
        for (String line : lines) {
            Matcher named = Pattern.compile("\\| (\\w+Test) \\|.*").matcher(line);
            if (named.matches()) {
                Path file = root.resolve("src/test/java").resolve(named.group(1) + ".java");
                CHECK.due(named.group(1) + " is there", Files.exists(file), true);
            }
        }
    }
}
