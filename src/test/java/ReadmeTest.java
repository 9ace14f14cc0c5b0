import java.io.IOException;
import java.lang.reflect.Method;
import java.lang.reflect.Modifier;
import java.nio.file.Files;
import java.nio.file.Path;
import java.util.Arrays;
import java.util.Collection;
import java.util.List;
import java.util.TreeSet;
import java.util.regex.Matcher;
import java.util.regex.Pattern;
import java.util.stream.Collectors;
import java.util.stream.Stream;

/** README.md: the calls that it shows are made here, line by line, and must answer what stands behind them. */
public final class ReadmeTest {
    private static final Path README = Path.of("README.md");
    private static final Path TESTS = Path.of("src/test/java");
    private static final Pattern MAKE = Pattern.compile("PolygonFrame frame = new PolygonFrame\\(([-\\d, ]*)\\);");
    /** The answer is the first word behind the slashes; why it is the answer may stand behind a colon. */
    private static final Pattern CALL = Pattern.compile("frame\\.(\\w+)\\(([-\\d, ]*)\\);(?: +// ([-\\w]+)(?:: .+)?)?");
    private static final Pattern METHOD_ROW = Pattern.compile("\\| `((?:void|int|boolean) .*?)` \\| .+ \\| .+ \\|");
    private static final Pattern TEST_ROW = Pattern.compile("\\| `(\\w+Test)` \\| .+ \\|");

    private final TreeSet<String> shown = new TreeSet<>();
    private PolygonFrame frame;

    public static void main(String[] args) throws IOException {
        List<String> lines = Files.readAllLines(README);
        List<String> tests = testClasses();
        ReadmeTest test = new ReadmeTest();
        Check.sentence("README.md: the calls", () -> test.examples(lines));
        Check.sentence("README.md: each method is shown", () -> same(test.shown, names()));
        Check.sentence("README.md: each method is told once", () -> same(toldMethods(lines), methods()));
        Check.sentence("README.md: each test is told once", () -> same(rows(lines, TEST_ROW), tests));
        Check.finish();
    }

    private void examples(List<String> lines) {
        boolean java = false;
        for (String line : lines) {
            if (line.startsWith("```")) {
                java = line.equals("```java");
            } else if (java) {
                example(line);
            }
        }
    }

    private void example(String line) {
        Matcher make = MAKE.matcher(line);
        Matcher call = CALL.matcher(line);
        if (make.matches()) {
            Object[] numbers = numbers(make.group(1));
            frame = new PolygonFrame((int) numbers[0], (int) numbers[1], (int) numbers[2]);
        } else if (call.matches()) {
            Check.due(line, answer(call.group(1), numbers(call.group(2))), String.valueOf(call.group(3)));
        } else {
            Check.due(line, "nothing, as it could not be read", "a call");
        }
    }

    /** A method without an answer answers null, which is also what a line without one names. */
    private String answer(String name, Object[] numbers) {
        shown.add(name);
        try {
            for (Method method : PolygonFrame.class.getDeclaredMethods()) {
                if (Modifier.isPublic(method.getModifiers()) && method.getName().equals(name)) {
                    return String.valueOf(method.invoke(frame, numbers));
                }
            }
        } catch (ReflectiveOperationException thrown) {
            return thrown.toString();
        }
        return "no such method";
    }

    private static Object[] numbers(String list) {
        return Stream.of(list.split(", ")).filter(one -> !one.isEmpty()).map(Integer::valueOf).toArray();
    }

    /** Both in the order of the alphabet, with none left out and none twice. */
    private static void same(Collection<String> told, Collection<String> there) {
        List<String> inOrder = told.stream().sorted().collect(Collectors.toList());
        Check.due("README.md", inOrder.toString(), there.stream().sorted().collect(Collectors.toList()).toString());
    }

    private static List<Method> face() {
        return Stream.of(PolygonFrame.class.getDeclaredMethods())
                .filter(method -> Modifier.isPublic(method.getModifiers())).collect(Collectors.toList());
    }

    private static List<String> names() {
        return face().stream().map(Method::getName).collect(Collectors.toList());
    }

    private static List<String> methods() {
        return face().stream().map(ReadmeTest::withoutNames).collect(Collectors.toList());
    }

    private static String withoutNames(Method method) {
        String types = Arrays.toString(method.getParameterTypes()).replace('[', '(').replace(']', ')');
        return method.getReturnType() + " " + method.getName() + types;
    }

    private static List<String> toldMethods(List<String> lines) {
        return rows(lines, METHOD_ROW).stream().map(row -> row.replaceAll("int \\w+(?=[,)])", "int"))
                .collect(Collectors.toList());
    }

    private static List<String> rows(List<String> lines, Pattern pattern) {
        return lines.stream().map(pattern::matcher).filter(Matcher::matches).map(row -> row.group(1))
                .collect(Collectors.toList());
    }

    private static List<String> testClasses() throws IOException {
        try (Stream<Path> files = Files.list(TESTS)) {
            return files.map(file -> file.getFileName().toString()).filter(name -> name.endsWith("Test.java"))
                    .map(name -> name.replace(".java", "")).collect(Collectors.toList());
        }
    }
}
