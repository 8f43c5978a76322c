import java.io.IOException;
import java.lang.reflect.Field;
import java.lang.reflect.Method;
import java.lang.reflect.Modifier;
import java.nio.file.Files;
import java.nio.file.Path;
import java.util.List;
import java.util.Set;
import java.util.TreeSet;
import java.util.regex.Matcher;
import java.util.regex.Pattern;

/** What can be seen of LANGUAGE.md in the source's own lines. */
public final class SourceRulesTest {
    private static final Set<String> FACE = Set.of("feed", "end", "fault", "code", "put", "count", "instruction", "block", "edge",
        "dominates", "loop", "statement", "condition", "line", "spell", "type", "run", "output", "comesTo", "far", "most");
    private static final Pattern METHOD = Pattern.compile(
        "^ {4,8}(?:public |private )?(?:static )?(?:[A-Za-z\\[\\]]+ )?([A-Za-z]+)\\([^()]*\\)(?: throws [A-Za-z]+)? \\{$");
    private static final String[] UNWANTED = {"->", "::", "finally", "synchronized", "assert ", "import java.util.*", "System.out",
        "@Override", " catch ", "rethrow", "Exact(", "static {", "equals(", "hashCode(", "toString(", "protected ", "\" +", "+ \"",
        "Random", "Thread", "record ", "yield "};

    private SourceRulesTest() {
    }

    public static void main(String[] args) throws IOException {
        List<String> lines = Files.readAllLines(Path.of("src/main/java/CodeLifter.java"));
        words(lines);
        loops(lines);
        methods(lines);
        face();
        classes();
        Due.close();
    }

    private static void words(List<String> lines) {
        for (int i = 0; i < lines.size(); i++) {
            String line = lines.get(i);
            String code = line.strip();
            if (code.startsWith("/**") || code.startsWith("*") || code.startsWith("//")) {
                continue;
            }
            for (String word : UNWANTED) {
                Due.same("line " + (i + 1) + " has " + word, line.contains(word) ? 1 : 0, 0);
            }
            boolean isStatic = code.startsWith("static ") || code.contains(" static ");
            boolean isField = isStatic && code.endsWith(";");
            Due.same("line " + (i + 1) + " has a static field that isn't final", isField && !code.contains("final ") ? 1 : 0, 0);
            Due.same("line " + (i + 1) + " is long", line.length() > 140 ? 1 : 0, 0);
            Due.same("line " + (i + 1) + " has a tab or a sign above 126", line.matches(".*[^ -~].*") ? 1 : 0, 0);
        }
        Due.same("one import", lines.stream().filter(line -> line.startsWith("import ")).count(), 1);
    }

    /** Each loop tells its bound: a counter in its head, or a reading that moves on in its two lines. */
    private static void loops(List<String> lines) {
        for (int i = 0; i < lines.size(); i++) {
            String code = lines.get(i).strip();
            if (code.startsWith("while")) {
                Due.holds("line " + (i + 1) + " tells its bound", code.startsWith("while (at < length && "));
            }
            Due.fails("line " + (i + 1) + " has an open for", code.contains("(;;)"));
        }
    }

    private static void methods(List<String> lines) {
        int found = 0;
        for (int i = 0; i < lines.size(); i++) {
            Matcher method = METHOD.matcher(lines.get(i));
            if (method.matches()) {
                found++;
                Due.holds(method.group(1) + " is short: " + length(lines, i), length(lines, i) <= 60);
            }
        }
        Due.holds("methods are found: " + found, found > 150);
    }

    private static int length(List<String> lines, int from) {
        String indent = lines.get(from).substring(0, lines.get(from).indexOf(lines.get(from).strip()));
        int to = from;
        while (to + 1 < lines.size() && !lines.get(to).equals(indent + "}")) {
            to++;
        }
        return to - from + 1;
    }

    private static void face() {
        Set<String> found = new TreeSet<>();
        for (Method method : CodeLifter.class.getDeclaredMethods()) {
            if (Modifier.isPublic(method.getModifiers())) {
                found.add(method.getName());
            } else {
                Due.holds(method.getName() + " is private", Modifier.isPrivate(method.getModifiers()));
                Due.fails(method.getName() + " bears a name of the face", FACE.contains(method.getName()));
            }
        }
        Due.text("public methods", found.toString(), new TreeSet<>(FACE).toString());
        for (Field field : CodeLifter.class.getDeclaredFields()) {
            boolean isConstant = field.getName().equals("NONE") || field.getName().equals("HIDDEN");
            Due.holds(field.getName() + " is private", isConstant || Modifier.isPrivate(field.getModifiers()));
        }
        Due.same("constructors", CodeLifter.class.getDeclaredConstructors().length, 1);
    }

    private static void classes() {
        Class<?>[] nested = CodeLifter.class.getDeclaredClasses();
        Due.holds("twelve classes at most", nested.length + 1 <= 12);
        fields(CodeLifter.class);
        for (Class<?> one : nested) {
            Due.holds(one.getName() + " is static", Modifier.isStatic(one.getModifiers()));
            fields(one);
            for (Method method : one.getDeclaredMethods()) {
                Due.fails(method.getName() + " bears a name of the face", FACE.contains(method.getName()));
                Due.holds(method.getName() + " takes seven at most", method.getParameterCount() <= 7);
            }
        }
    }

    private static void fields(Class<?> one) {
        int own = 0;
        for (Field field : one.getDeclaredFields()) {
            if (!Modifier.isStatic(field.getModifiers())) {
                own++;
            } else {
                Due.holds(field.getName() + " is final", Modifier.isFinal(field.getModifiers()));
            }
        }
        Due.holds(one.getName() + " has " + own + " fields", own <= 20);
    }
}
