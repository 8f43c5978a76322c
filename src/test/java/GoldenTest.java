import java.io.BufferedReader;
import java.io.IOException;
import java.nio.file.Files;
import java.nio.file.Path;
import java.util.ArrayList;
import java.util.List;
import java.util.NoSuchElementException;

/**
 * Promises 1 to 22: all answers for some codes, as a second program found them that was written by itself from
 * the document and looks for everything in the plainest way: for random ones, and for some that come near the most
 * statements, X, lines, signs there can be. A line that begins with ">" is told to the object, those behind it are
 * what is due: N a new object, T a text, P a put, Q all questions, R a run. Another file may be told as argument.
 */
public final class GoldenTest {
    private static CodeLifter lifter = new CodeLifter();
    private static int wrong = 0;

    private GoldenTest() {
    }

    public static void main(String[] args) throws IOException {
        if (args.length > 0) {
            compare(Path.of(args[0]));
        } else {
            compare(Path.of("src/test/golden/answers.txt"));
            compare(Path.of("src/test/golden/full.txt"));
        }
        if (wrong != 0) {
            System.exit(1);
        }
    }

    private static void compare(Path answers) throws IOException {
        List<String> got = new ArrayList<>();
        int number = 0;
        String told = "";
        try (BufferedReader reader = Files.newBufferedReader(answers)) {
            for (String line = reader.readLine(); line != null && wrong < 20; line = reader.readLine()) {
                number++;
                if (line.startsWith("> ")) {
                    wrong += left(got, told);
                    told = line.substring(2);
                    tell(told.split(" "), got);
                } else {
                    String answer = got.isEmpty() ? "nothing" : got.remove(0);
                    if (!answer.equals(line)) {
                        wrong++;
                        System.out.println("line " + number + ", " + told + ": answered\n" + answer + "\ndue is\n" + line);
                    }
                }
            }
        }
        wrong += left(got, told);
        if (number < 1000) {
            wrong++;
            System.out.println(answers + " has " + number + " lines alone");
        }
    }

    private static int left(List<String> got, String told) {
        if (got.isEmpty()) {
            return 0;
        }
        System.out.println(told + ": answered more than is due: " + got.get(0));
        got.clear();
        return 1;
    }

    private static void tell(String[] words, List<String> got) {
        switch (words[0]) {
            case "N" -> lifter = new CodeLifter();
            case "T" -> text(words, got);
            case "P" -> got.add("put " + lifter.put(number(words, 1), number(words, 2), number(words, 3)));
            case "Q" -> questions(got);
            default -> run(words, got);
        }
    }

    private static int number(String[] words, int k) {
        return Integer.parseInt(words[k]);
    }

    private static void text(String[] words, List<String> got) {
        lifter.end(0);
        for (int from = 1; from < words.length; from += 20) {
            int[] bytes = new int[5];
            for (int k = 0; k < 20; k++) {
                int next = from + k < words.length ? number(words, from + k) : 0;
                bytes[k / 4] = bytes[k / 4] << 8 | next;
            }
            got.add("f " + lifter.feed(bytes[0], bytes[1], bytes[2], bytes[3], bytes[4]));
        }
        got.add("fault " + lifter.fault());
        got.add("code " + lifter.code() + " " + lifter.count(12));
    }

    private interface Question {
        long ask(int what);
    }

    private static String row(String begin, int from, int to, Question question) {
        StringBuilder row = new StringBuilder(begin);
        for (int what = from; what <= to; what++) {
            row.append(' ').append(question.ask(what));
        }
        return row.toString();
    }

    private static void questions(List<String> got) {
        got.add(row("count", -1, 16, lifter::count));
        for (int i = -1; i <= Math.max(0, lifter.count(0)); i++) {
            int at = i;
            got.add(row("ins " + i, -1, 6, what -> instruction(at, what)));
        }
        int blocks = Math.max(0, lifter.count(1));
        for (int b = -1; b <= blocks; b++) {
            questionsOfBlock(b, blocks, got);
        }
        for (int i = -1; i <= Math.max(0, lifter.count(2)); i++) {
            int at = i;
            got.add(row("edge " + i, -1, 5, what -> lifter.edge(at, what)));
        }
        for (int i = -1; i <= Math.max(0, lifter.count(8)); i++) {
            int at = i;
            String row = row("line " + i, -1, 3, what -> lifter.line(at, what));
            got.add(row + spelled(k -> lifter.spell(at, (int) k)));
        }
        for (int sort = -1; sort <= 3; sort++) {
            int of = sort;
            got.add(row("type " + sort, -1, 11, number -> lifter.type(of, number)));
        }
        got.add(row("most", -1, 8, lifter::most));
    }

    private static void questionsOfBlock(int b, int blocks, List<String> got) {
        StringBuilder row = new StringBuilder(row("blk " + b, -1, 13, what -> block(b, what)));
        row.append(" loop ").append(lifter.loop(b)).append(" ct ").append(lifter.comesTo(b));
        row.append(row(" dom", -1, blocks, other -> lifter.dominates(b, other) ? 1 : 0));
        row.append(row(" far", -1, blocks, other -> lifter.far(b, other)));
        got.add(row.toString());
        got.add("cond" + spelled(k -> lifter.condition(b, k)));
        int statements = b >= 0 && b < blocks ? block(b, 9) : 0;
        for (int i = -1; i <= statements; i++) {
            int at = i;
            got.add(row("st " + b + " " + i, -1, 5, what -> lifter.statement(b, at, what)));
        }
    }

    private static String spelled(Question sign) {
        int width = (int) sign.ask(-1);
        StringBuilder row = new StringBuilder(" " + width + " ");
        for (int k = 0; k < width; k++) {
            row.append((char) sign.ask(k));
        }
        return row.append(' ').append(sign.ask(Math.max(0, width))).append(' ').append(sign.ask(-2)).toString();
    }

    private static int instruction(int i, int what) {
        try {
            return lifter.instruction(i, what);
        } catch (NoSuchElementException e) {
            return -777;
        }
    }

    private static int block(int b, int what) {
        try {
            return lifter.block(b, what);
        } catch (NoSuchElementException e) {
            return -777;
        }
    }

    private static void run(String[] words, List<String> got) {
        int[] call = new int[6];
        for (int k = 1; k < words.length; k++) {
            call[k] = number(words, k);
        }
        String row = row("run", -1, 12, what -> lifter.run(call[1], call[2], call[3], call[4], call[5], what));
        int outputs = lifter.run(call[1], call[2], call[3], call[4], call[5], 0);
        int told = Math.max(-1, Math.min(outputs, 20));
        got.add(row(row + " :", -1, told, k -> lifter.output(call[1], call[2], call[3], call[4], call[5], k)));
    }
}
