import java.io.IOException;
import java.lang.reflect.Member;
import java.lang.reflect.Method;
import java.lang.reflect.Modifier;
import java.nio.file.Files;
import java.nio.file.Path;
import java.util.ArrayList;
import java.util.Arrays;
import java.util.List;
import java.util.TreeSet;
import java.util.regex.Matcher;
import java.util.regex.Pattern;
import java.util.stream.Collectors;

/** The class's face, and the rules of LANGUAGE.md that can be seen from outside or in its text. */
final class LanguageTests {
    private static final Checks CHECKS = new Checks("LanguageTests");
    private static final String INDEX = "IndexOutOfBoundsException";
    private static final String ARGUMENT = "IllegalArgumentException";
    private static final String STATE = "IllegalStateException";

    private LanguageTests() {
    }

    public static void main(String[] args) throws Exception {
        faceIsTheDocuments();
        nothingElseIsVisible();
        privateMethodsHaveOtherNames();
        staticFieldsAreFinal();
        libraryIsTheAllowed();
        String text = Files.readString(Path.of("src/main/java/SegmentMap.java"));
        faceIsInItsOrder(text);
        textKeepsTheRules(text);
        CHECKS.finish();
    }

    private static void faceIsTheDocuments() {
        List<String> due = new ArrayList<>(List.of(
                "add/4 int " + ARGUMENT + " " + STATE, "remove/1 int " + INDEX, "segments/0 int",
                "meet/2 boolean " + INDEX, "vertices/0 int", "edges/0 int", "faces/0 int",
                "components/0 int", "faceAt/2 int " + ARGUMENT, "crossing/1 int " + ARGUMENT,
                "crossingAt/2 int " + ARGUMENT + " " + INDEX));
        for (String name : List.of("xNumerator", "xDenominator", "yNumerator", "yDenominator", "degree",
                "segmentOf", "from", "to", "leftOf", "rightOf", "sides", "firstVertex")) {
            due.add(name + "/1 int " + INDEX);
        }
        List<String> got = Arrays.stream(SegmentMap.class.getDeclaredMethods())
                .filter(m -> Modifier.isPublic(m.getModifiers())).map(LanguageTests::told).toList();
        CHECKS.same("methods", new TreeSet<>(got) + "\n", new TreeSet<>(due) + "\n");
        CHECKS.same("public", SegmentMap.class.getModifiers(), Modifier.PUBLIC | Modifier.FINAL);
        CHECKS.same("constructors", Arrays.toString(SegmentMap.class.getDeclaredConstructors()) + "\n",
                "[public SegmentMap()]\n");
        CHECKS.same("constants", Arrays.toString(SegmentMap.class.getFields()) + "\n",
                "[public static final int SegmentMap.NONE]\n");
    }

    private static String told(Method m) {
        String thrown = Arrays.stream(m.getExceptionTypes()).map(e -> " " + e.getSimpleName())
                .collect(Collectors.joining());
        for (Class<?> type : m.getParameterTypes()) {
            CHECKS.same(m.getName() + " takes int", type == int.class, true);
        }
        return m.getName() + "/" + m.getParameterCount() + " " + m.getReturnType() + thrown;
    }

    private static void nothingElseIsVisible() {
        List<Member> members = new ArrayList<>(List.of(SegmentMap.class.getDeclaredMethods()));
        members.addAll(List.of(SegmentMap.class.getDeclaredFields()));
        members.addAll(List.of(SegmentMap.class.getDeclaredConstructors()));
        for (Member m : members) {
            int hidden = m.getModifiers() & (Modifier.PUBLIC | Modifier.PRIVATE);
            CHECKS.same(m + " is public or private", hidden != 0, true);
        }
        CHECKS.same("few classes", SegmentMap.class.getDeclaredClasses().length < 12, true);
        for (Class<?> inside : SegmentMap.class.getDeclaredClasses()) {
            CHECKS.same(inside + " is static", Modifier.isStatic(inside.getModifiers()), true);
            CHECKS.same(inside + " is not public", Modifier.isPublic(inside.getModifiers()), false);
            CHECKS.same(inside + " has few fields", inside.getDeclaredFields().length <= 20, true);
            // One that had would hide it from these tests.
            CHECKS.same(inside + " has no class inside", inside.getDeclaredClasses().length, 0);
        }
    }

    private static List<Class<?>> allClasses() {
        List<Class<?>> all = new ArrayList<>(List.of(SegmentMap.class.getDeclaredClasses()));
        all.add(SegmentMap.class);
        return all;
    }

    /** No overloads of the face, and none of what every object has. */
    private static void privateMethodsHaveOtherNames() {
        TreeSet<String> open = new TreeSet<>();
        for (Method m : SegmentMap.class.getMethods()) {
            open.add(m.getName());
        }
        for (Class<?> one : allClasses()) {
            for (Method m : one.getDeclaredMethods()) {
                boolean hidden = !Modifier.isPublic(m.getModifiers());
                CHECKS.same(m + " has a name of its own", hidden && open.contains(m.getName()), false);
            }
        }
    }

    private static void staticFieldsAreFinal() {
        for (Class<?> one : allClasses()) {
            for (java.lang.reflect.Field f : one.getDeclaredFields()) {
                boolean open = Modifier.isStatic(f.getModifiers()) && !Modifier.isFinal(f.getModifiers());
                CHECKS.same(f + " is final if it is static", open, false);
            }
        }
    }

    /** What rule 4 lists, as far as the class needs it, and the exceptions that the document names. */
    private static void libraryIsTheAllowed() throws IOException {
        TreeSet<String> allowed = new TreeSet<>(List.of("java/lang/Object.<init>", "java/lang/Long.compare",
                "java/lang/Math.abs", "java/lang/Math.max", "java/lang/Math.min"));
        for (String call : List.of("<init>", "add", "get", "set", "remove", "size", "isEmpty", "clear")) {
            allowed.add("java/util/ArrayList." + call);
        }
        for (String thrown : List.of(INDEX, ARGUMENT, STATE)) {
            allowed.add("java/lang/" + thrown + ".<init>");
        }
        for (Class<?> one : allClasses()) {
            for (String member : ClassFile.named(one)) {
                boolean own = member.startsWith("SegmentMap");
                CHECKS.same(one + " may use " + member, own || allowed.contains(member), true);
            }
        }
    }

    /** The calls in the document's order, each kind of them behind its heading. */
    private static void faceIsInItsOrder(String text) {
        List<String> due = List.of("// ---- segments\n", "int add(", "int remove(", "int segments(", "boolean meet(",
                "// ---- vertices and edges\n", "int vertices(", "int edges(", "int faces(", "int components(",
                "int xNumerator(", "int xDenominator(", "int yNumerator(", "int yDenominator(", "int degree(",
                "int segmentOf(", "int from(", "int to(", "// ---- faces\n", "int leftOf(", "int rightOf(",
                "int sides(", "int firstVertex(", "int faceAt(", "// ---- a vertical line\n", "int crossing(",
                "int crossingAt(");
        int at = text.indexOf("public SegmentMap()");
        CHECKS.same("the constructor stands first", at > 0, true);
        for (String part : due) {
            int next = text.indexOf(part.startsWith("//") ? part : "public " + part);
            CHECKS.same(part + " in its place", next > at, true);
            at = next;
        }
    }

    private static void textKeepsTheRules(String text) {
        String code = text.replaceAll("(?s)/\\*.*?\\*/", "").replaceAll("//[^\n]*", "");
        Matcher imports = Pattern.compile("import [^;]*;").matcher(code);
        while (imports.find()) {
            CHECKS.same("import", imports.group() + "\n", "import java.util.ArrayList;\n");
        }
        for (String word : List.of("package", "try", "catch", "finally", "synchronized", "assert", "double",
                "float", "equals", "hashCode", "toString", "System", "static \\{", "->", "::", "Exact")) {
            String found = Pattern.compile("(?<![A-Za-z])" + word + "(?![A-Za-z])").matcher(code).find()
                    || word.equals("Exact") && code.contains(word) ? word : "";
            CHECKS.same("a word that the rules leave out", found + "\n", "\n");
        }
        CHECKS.same("every throw is a new one with a written text", count(code, "\\bthrow\\b"),
                count(code, "\\bthrow new (" + INDEX + "|" + ARGUMENT + "|" + STATE + ")\\(\"[^\"]+\"\\);"));
        CHECKS.same("only plain signs", text.chars().allMatch(c -> c == '\n' || c >= 32 && c < 127), true);
        CHECKS.same("at most seven parameters",
                Pattern.compile("\\((?:\\w+ \\w+, ){7,}\\w+ \\w+\\)").matcher(code).find(), false);
        methodsAreShort(code);
    }

    private static long count(String code, String pattern) {
        return Pattern.compile(pattern).matcher(code).results().count();
    }

    /** A method of a class on either level ends with a brace at its own depth. */
    private static void methodsAreShort(String code) {
        String[] lines = code.split("\n");
        for (String depth : List.of("    ", "        ")) {
            int start = 0;
            for (int i = 0; i < lines.length; i++) {
                if (lines[i].startsWith(depth) && lines[i].matches(" *[^ }].*\\{")
                        && lines[i].charAt(depth.length()) != ' ') {
                    start = lines[i].contains(" class ") ? 0 : i;
                } else if (lines[i].equals(depth + "}")) {
                    CHECKS.same("short: " + lines[start], i - start < 60 || start == 0, true);
                }
            }
        }
    }
}
