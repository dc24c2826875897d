import java.lang.reflect.Member;
import java.lang.reflect.Method;
import java.lang.reflect.Modifier;
import java.nio.file.Files;
import java.nio.file.Path;
import java.util.ArrayList;
import java.util.Arrays;
import java.util.List;
import java.util.TreeSet;
import java.util.regex.Matcher;
import java.util.regex.Pattern;
import java.util.stream.Collectors;

/** The class's face, and the rules of LANGUAGE.md that can be seen from outside or in its text. */
final class LanguageTests {
    private static final Checks CHECKS = new Checks("LanguageTests");
    private static final String INDEX = "IndexOutOfBoundsException";
    private static final String ARGUMENT = "IllegalArgumentException";
    private static final String STATE = "IllegalStateException";

    private LanguageTests() {
    }

    public static void main(String[] args) throws Exception {
        faceIsTheDocuments();
        nothingElseIsVisible();
        staticFieldsAreFinal();
        textKeepsTheRules(Files.readString(Path.of("src/main/java/SegmentMap.java")));
        CHECKS.finish();
    }

    private static void faceIsTheDocuments() {
        List<String> due = new ArrayList<>(List.of(
                "add/4 int " + ARGUMENT + " " + STATE, "remove/1 int " + INDEX, "segments/0 int",
                "meet/2 boolean " + INDEX, "vertices/0 int", "edges/0 int", "faces/0 int",
                "components/0 int", "faceAt/2 int " + ARGUMENT, "crossing/1 int " + ARGUMENT,
                "crossingAt/2 int " + ARGUMENT + " " + INDEX));
        for (String name : List.of("xNumerator", "xDenominator", "yNumerator", "yDenominator", "degree",
                "segmentOf", "from", "to", "leftOf", "rightOf", "sides", "firstVertex")) {
            due.add(name + "/1 int " + INDEX);
        }
        List<String> got = Arrays.stream(SegmentMap.class.getDeclaredMethods())
                .filter(m -> Modifier.isPublic(m.getModifiers())).map(LanguageTests::told).toList();
        CHECKS.same("methods", new TreeSet<>(got) + "\n", new TreeSet<>(due) + "\n");
        CHECKS.same("public", SegmentMap.class.getModifiers(), Modifier.PUBLIC | Modifier.FINAL);
        CHECKS.same("constructors", SegmentMap.class.getConstructors().length, 1);
        CHECKS.same("constants", SegmentMap.class.getFields().length, 1);
    }

    private static String told(Method m) {
        String thrown = Arrays.stream(m.getExceptionTypes()).map(e -> " " + e.getSimpleName())
                .collect(Collectors.joining());
        for (Class<?> type : m.getParameterTypes()) {
            CHECKS.same(m.getName() + " takes int", type == int.class, true);
        }
        return m.getName() + "/" + m.getParameterCount() + " " + m.getReturnType() + thrown;
    }

    private static void nothingElseIsVisible() {
        List<Member> members = new ArrayList<>(List.of(SegmentMap.class.getDeclaredMethods()));
        members.addAll(List.of(SegmentMap.class.getDeclaredFields()));
        members.addAll(List.of(SegmentMap.class.getDeclaredConstructors()));
        for (Member m : members) {
            int hidden = m.getModifiers() & (Modifier.PUBLIC | Modifier.PRIVATE);
            CHECKS.same(m + " is public or private", hidden != 0, true);
        }
        TreeSet<String> open = new TreeSet<>();
        for (Method m : SegmentMap.class.getMethods()) {
            open.add(m.getName());
        }
        for (Class<?> inside : SegmentMap.class.getDeclaredClasses()) {
            CHECKS.same(inside + " is static", Modifier.isStatic(inside.getModifiers()), true);
            CHECKS.same(inside + " is not public", Modifier.isPublic(inside.getModifiers()), false);
            CHECKS.same(inside + " has few fields", inside.getDeclaredFields().length <= 20, true);
            for (Method m : inside.getDeclaredMethods()) {
                CHECKS.same(m + " has a name of its own", open.contains(m.getName()), false);
            }
        }
    }

    private static void staticFieldsAreFinal() {
        List<Class<?>> all = new ArrayList<>(List.of(SegmentMap.class.getDeclaredClasses()));
        all.add(SegmentMap.class);
        for (Class<?> one : all) {
            for (java.lang.reflect.Field f : one.getDeclaredFields()) {
                boolean open = Modifier.isStatic(f.getModifiers()) && !Modifier.isFinal(f.getModifiers());
                CHECKS.same(f + " is final if it is static", open, false);
            }
        }
    }

    private static void textKeepsTheRules(String text) {
        String code = text.replaceAll("(?s)/\\*.*?\\*/", "").replaceAll("//[^\n]*", "");
        Matcher imports = Pattern.compile("import [^;]*;").matcher(code);
        while (imports.find()) {
            CHECKS.same("import", imports.group() + "\n", "import java.util.ArrayList;\n");
        }
        for (String word : List.of("package", "try", "catch", "finally", "synchronized", "assert", "double",
                "float", "equals", "hashCode", "toString", "System", "static \\{", "->", "::", "Exact")) {
            String found = Pattern.compile("(?<![A-Za-z])" + word + "(?![A-Za-z])").matcher(code).find()
                    || word.equals("Exact") && code.contains(word) ? word : "";
            CHECKS.same("a word that the rules leave out", found + "\n", "\n");
        }
        CHECKS.same("only plain signs", text.chars().allMatch(c -> c == '\n' || c >= 32 && c < 127), true);
        CHECKS.same("at most seven parameters",
                Pattern.compile("\\((?:\\w+ \\w+, ){7,}\\w+ \\w+\\)").matcher(code).find(), false);
        methodsAreShort(code);
    }

    /** A method of a class on either level ends with a brace at its own depth. */
    private static void methodsAreShort(String code) {
        String[] lines = code.split("\n");
        for (String depth : List.of("    ", "        ")) {
            int start = 0;
            for (int i = 0; i < lines.length; i++) {
                if (lines[i].startsWith(depth) && lines[i].matches(" *[^ }].*\\{")
                        && lines[i].charAt(depth.length()) != ' ') {
                    start = lines[i].contains(" class ") ? 0 : i;
                } else if (lines[i].equals(depth + "}")) {
                    CHECKS.same("short: " + lines[start], i - start < 60 || start == 0, true);
                }
            }
        }
    }
}
