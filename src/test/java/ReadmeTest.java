import java.io.IOException;
import java.lang.reflect.Method;
import java.lang.reflect.Modifier;
import java.nio.file.Files;
import java.nio.file.Path;
import java.util.List;

/** What README.md says of the use of the class holds: its example, its table of texts, its names. */
public final class ReadmeTest {
    private ReadmeTest() {
    }

    public static void main(String[] args) throws IOException {
        String page = Files.readString(Path.of("README.md"));
        example(page);
        texts(page);
        names(page);
        tests(page);
        Due.close();
    }

    private static void example(String page) {
        CodeLifter lifter = new CodeLifter();
        Due.same("bytes fed", lifter.feed(0x6C617A34, 0x6B316F72, 0, 0, 0), 8);
        Due.same("blocks", lifter.code(), 3);
        StringBuilder printed = new StringBuilder();
        for (int i = 0; i < lifter.count(8); i++) {
            printed.append(Due.spelled(lifter, i)).append('\n');
        }
        Due.text("what the example prints", between(page, "This prints\n\n```text\n", "```"), printed.toString());
        Due.same("outputs", lifter.run(1, 7, 0, 1, 50, 0), 1);
        Due.same("first", lifter.output(1, 7, 0, 1, 50, 0), 1);
    }

    private static String between(String page, String begin, String end) {
        int from = page.indexOf(begin) + begin.length();
        return from < begin.length() ? "" : page.substring(from, page.indexOf(end, from));
    }

    /** The rows behind "Text, code(), Why": what code() answers to each text. */
    private static void texts(String page) {
        String[] rows = between(page, "| Text | `code()` | Why |\n| --- | --- | --- |\n", "\n\n").split("\n");
        for (String row : rows) {
            String[] cells = row.split(" \\| ");
            String text = cells[0].substring(3, cells[0].length() - 1);
            Due.same("code() of " + text, Due.fed(text).code(), Integer.parseInt(cells[1]));
        }
        Due.same("rows", rows.length, 8);
        Due.same("the fault told", Due.fed("k1 k1 k").fault(), 7);
    }

    private static void names(String page) {
        for (Method method : CodeLifter.class.getDeclaredMethods()) {
            if (Modifier.isPublic(method.getModifiers())) {
                Due.holds("it tells " + method.getName(), page.contains("`" + method.getName() + "("));
            }
        }
        for (int sign : "klsgzh+-*/%<=!ndpwiotr".chars().toArray()) {
            String row = between(page, "| Instruction | What it does |\n", "\n\n");
            Due.holds("it tells what " + (char) sign + " does", row.contains("`" + (char) sign));
        }
    }

    private static void tests(String page) throws IOException {
        List<Path> files = Files.list(Path.of("src/test/java")).toList();
        for (Path file : files) {
            String name = file.getFileName().toString().replace(".java", "");
            Due.holds("it tells " + name, !name.endsWith("Test") || page.contains("| `" + name + "` |"));
        }
        Due.holds("tests are found", files.size() > 10);
    }
}
