import java.io.IOException;
import java.lang.reflect.InvocationTargetException;
import java.lang.reflect.Method;
import java.lang.reflect.Modifier;
import java.nio.file.Files;
import java.nio.file.Path;
import java.util.ArrayList;
import java.util.Arrays;
import java.util.List;
import java.util.Set;
import java.util.TreeSet;
import java.util.regex.Matcher;
import java.util.regex.Pattern;
import java.util.stream.Collectors;
import java.util.stream.Stream;

/** What README.md says: each line of its examples is run, its tables and its list of tests are whole. */
final class ReadmeTests {
    private static final Checks CHECKS = new Checks("ReadmeTests");
    private static final Path TESTS = Path.of("src/test/java");
    private static final Pattern CALL =
            Pattern.compile("map\\.(\\w+)\\(([-\\d, ]*)\\); +// (throws \\w+|-?\\d+|true|false|NONE)\\b.*");
    private static final Pattern ROW = Pattern.compile("\\| `(\\w+ \\w+)\\((.*?)\\)` \\| (.+?) \\|(.*)\\|");

    private final Set<String> shown = new TreeSet<>();
    private SegmentMap map = null;

    private ReadmeTests() {
    }

    public static void main(String[] args) throws IOException {
        List<String> lines = Files.readAllLines(Path.of("README.md"));
        new ReadmeTests().examples(lines);
        tablesAreTheFace(lines);
        everyTestIsNamed(String.join("\n", lines));
        CHECKS.finish();
    }

    private static Stream<Method> face() {
        return Arrays.stream(SegmentMap.class.getDeclaredMethods())
                .filter(m -> Modifier.isPublic(m.getModifiers()));
    }

    // ---- examples

    private void examples(List<String> lines) {
        boolean inside = false;
        for (String line : lines) {
            if (line.startsWith("```")) {
                inside = line.equals("```java");
                // No example goes on with the map of the one before it.
                map = null;
            } else if (inside) {
                example(line);
            }
        }
        CHECKS.same("methods that the examples call", shown + "\n",
                face().map(Method::getName).collect(Collectors.toCollection(TreeSet::new)) + "\n");
    }

    private void example(String line) {
        Matcher call = CALL.matcher(line);
        if (line.equals("SegmentMap map = new SegmentMap();")) {
            map = new SegmentMap();
        } else if (map != null && call.matches()) {
            shown.add(call.group(1));
            CHECKS.same(line, answer(call.group(1), numbers(call.group(2))) + "\n", call.group(3) + "\n");
        } else {
            CHECKS.same("a line of README.md that is no call with its answer", line + "\n", "\n");
        }
    }

    private static Object[] numbers(String list) {
        return list.isEmpty() ? new Object[0]
                : Arrays.stream(list.split(", ")).map(Integer::valueOf).toArray();
    }

    /** As README.md writes it: a number, true or false, NONE, or throws and the exception's name. */
    private String answer(String name, Object[] numbers) {
        Class<?>[] types = new Class<?>[numbers.length];
        Arrays.fill(types, int.class);
        try {
            Object got = SegmentMap.class.getMethod(name, types).invoke(map, numbers);
            return got.equals(SegmentMap.NONE) ? "NONE" : got.toString();
        } catch (InvocationTargetException e) {
            return "throws " + e.getCause().getClass().getSimpleName();
        } catch (ReflectiveOperationException e) {
            return "no such method";
        }
    }

    // ---- tables

    /** The signature of each method, and all exceptions that it names, in their order. */
    private static void tablesAreTheFace(List<String> lines) {
        List<String> told = new ArrayList<>();
        for (String line : lines) {
            Matcher row = ROW.matcher(line);
            if (row.matches()) {
                String thrown = Pattern.compile("`(\\w+Exception)`").matcher(row.group(4)).results()
                        .map(r -> " " + r.group(1)).collect(Collectors.joining());
                told.add(row.group(1) + "(" + row.group(2).replaceAll(" \\w+(?=,|$)", "") + ")" + thrown);
            } else {
                CHECKS.same("a row that is not understood", line.startsWith("| `") ? line + "\n" : "", "");
            }
        }
        CHECKS.same("methods in the tables", told.size(), face().count());
        CHECKS.same("tables", new TreeSet<>(told) + "\n",
                face().map(ReadmeTests::signature).collect(Collectors.toCollection(TreeSet::new)) + "\n");
    }

    private static String signature(Method m) {
        String types = Arrays.stream(m.getParameterTypes()).map(Class::getName).collect(Collectors.joining(", "));
        String thrown = Arrays.stream(m.getExceptionTypes()).map(e -> " " + e.getSimpleName())
                .collect(Collectors.joining());
        return m.getReturnType() + " " + m.getName() + "(" + types + ")" + thrown;
    }

    // ---- tests

    private static void everyTestIsNamed(String text) throws IOException {
        Set<String> named = Pattern.compile("`(\\w+Tests)`").matcher(text).results().map(r -> r.group(1))
                .collect(Collectors.toCollection(TreeSet::new));
        try (Stream<Path> files = Files.list(TESTS)) {
            Set<String> there = files.map(f -> f.getFileName().toString()).filter(f -> f.endsWith("Tests.java"))
                    .map(f -> f.replace(".java", "")).collect(Collectors.toCollection(TreeSet::new));
            CHECKS.same("tests that README.md names", named + "\n", there + "\n");
        }
        CHECKS.same("the command is there", Files.isExecutable(Path.of(".ci/run")), true);
    }
}
