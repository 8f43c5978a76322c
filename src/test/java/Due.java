import java.io.IOException;
import java.nio.file.Files;
import java.nio.file.Path;
import java.util.NoSuchElementException;

/** What all tests share: comparing answers with those due, and feeding texts. */
final class Due {
    static final int NONE = CodeLifter.NONE;
    static final int HIDDEN = CodeLifter.HIDDEN;
    private static int wrong = 0;
    private static String document;
    private static String sentence = "";

    private Due() {
    }

    /** The sentence of DOC.md that the next answers are due by; where there is a DOC.md, it must stand there. */
    static void says(String words) {
        sentence = words;
        if (document == null) {
            document = document();
        }
        holds("the document says it", document.isEmpty() || document.contains(words));
    }

    private static String document() {
        try {
            return Files.readString(Path.of("../shared/DOC.md")).replace("\n  ", " ");
        } catch (IOException e) {
            return "";
        }
    }

    static void same(String call, long got, long want) {
        if (got != want) {
            wrong(call + " answered " + got + ", due is " + want);
        }
    }

    private static void wrong(String what) {
        wrong++;
        System.out.println(sentence.isEmpty() ? what : "\"" + sentence + "\": " + what);
    }

    static void holds(String call, boolean got) {
        same(call, got ? 1 : 0, 1);
    }

    static void fails(String call, boolean got) {
        same(call, got ? 1 : 0, 0);
    }

    static void text(String call, String got, String want) {
        if (!got.equals(want)) {
            wrong(call + " answered\n" + got + "\ndue is\n" + want);
        }
    }

    static void refuses(String call, Runnable asked) {
        try {
            asked.run();
        } catch (NoSuchElementException e) {
            return;
        }
        wrong(call + " didn't throw NoSuchElementException");
    }

    /** Ends the test, with exit code 1 if an answer was wrong. */
    static void close() {
        if (wrong != 0) {
            System.exit(1);
        }
    }

    /** Twenty bytes a call; what the last feed answered. */
    static int feed(CodeLifter lifter, String text) {
        int length = NONE;
        for (int from = 0; from < text.length(); from += 20) {
            int[] words = new int[5];
            for (int k = 0; k < 20; k++) {
                int next = from + k < text.length() ? text.charAt(from + k) : 0;
                words[k / 4] = words[k / 4] << 8 | next;
            }
            length = lifter.feed(words[0], words[1], words[2], words[3], words[4]);
        }
        return length;
    }

    static CodeLifter fed(String text) {
        CodeLifter lifter = new CodeLifter();
        feed(lifter, text);
        return lifter;
    }

    static CodeLifter coded(String text) {
        CodeLifter lifter = fed(text);
        if (lifter.code() < 1) {
            wrong("isn't taken as code: " + text);
        }
        return lifter;
    }

    static String spelled(CodeLifter lifter, int line) {
        StringBuilder signs = new StringBuilder();
        for (int k = 0; k < lifter.spell(line, NONE); k++) {
            signs.append((char) lifter.spell(line, k));
        }
        return signs.toString();
    }

    static String condition(CodeLifter lifter, int block) {
        StringBuilder signs = new StringBuilder();
        for (int k = 0; k < lifter.condition(block, NONE); k++) {
            signs.append((char) lifter.condition(block, k));
        }
        return signs.toString();
    }

    /** All lines, each behind as many blanks as it stands in { }. */
    static String told(CodeLifter lifter) {
        StringBuilder all = new StringBuilder();
        for (int i = 0; i < lifter.count(8); i++) {
            all.append(" ".repeat(Math.max(0, lifter.line(i, 2)))).append(spelled(lifter, i)).append('\n');
        }
        return all.toString();
    }

    /** The statements of a block in a row, as its lines spell them. */
    static String statements(CodeLifter lifter, int block) {
        StringBuilder all = new StringBuilder();
        for (int i = 0; i < lifter.count(8); i++) {
            if (lifter.line(i, 0) == 0 && lifter.line(i, 1) == block) {
                all.append(spelled(lifter, i));
            }
        }
        return all.toString();
    }

    /** A column of answers of instruction, block or edge, told as 1,2,3. */
    static String column(CodeLifter lifter, char of, int what) {
        StringBuilder all = new StringBuilder();
        int size = lifter.count(of == 'i' ? 0 : of == 'b' ? 1 : 2);
        for (int i = 0; i < size; i++) {
            int answer = of == 'i' ? lifter.instruction(i, what) : of == 'b' ? lifter.block(i, what) : lifter.edge(i, what);
            all.append(i == 0 ? "" : ",").append(answer);
        }
        return all.toString();
    }

    static String counts(CodeLifter lifter) {
        StringBuilder all = new StringBuilder();
        for (int what = 0; what <= 14; what++) {
            all.append(what == 0 ? "" : ",").append(lifter.count(what));
        }
        return all.toString();
    }

    static void fault(String text, int want) {
        CodeLifter lifter = fed(text);
        same("fault of " + text, lifter.fault(), want);
        if (want != NONE) {
            same("code of " + text, lifter.code(), NONE);
        }
        same("bytes of " + text, lifter.count(12), text.length());
    }

    /** How many blocks, or why it isn't right. */
    static void verdict(String text, int want) {
        CodeLifter lifter = fed(text);
        same("fault of " + text, lifter.fault(), NONE);
        same("code of " + text, lifter.code(), want);
        same("bytes left of " + text, lifter.count(12), want > 0 ? 0 : text.length());
    }

    /** What code and lines answer to run(.., what) from 0 on; call: a, b, seed, blocks. */
    static void runs(CodeLifter lifter, int[] call, int... want) {
        for (int how = 0; how < 2; how++) {
            for (int what = 0; what < want.length; what++) {
                int got = lifter.run(how, call[0], call[1], call[2], call[3], what);
                same("run how " + how + ", what " + what, got, want[what]);
            }
        }
    }

    /** All outputs of code and of lines. */
    static void outputs(CodeLifter lifter, int[] call, int... want) {
        for (int how = 0; how < 2; how++) {
            for (int k = -1; k <= want.length; k++) {
                int due = k < 0 || k == want.length ? HIDDEN : want[k];
                same("output how " + how + ", " + k, lifter.output(how, call[0], call[1], call[2], call[3], k), due);
            }
            same("outputs", lifter.run(how, call[0], call[1], call[2], call[3], 0), want.length);
        }
    }

    /** All that an object tells of its code, but for runs. */
    static String everything(CodeLifter lifter) {
        StringBuilder all = new StringBuilder(counts(lifter)).append('\n').append(told(lifter));
        for (int what = 0; what <= 12; what++) {
            all.append(what < 6 ? column(lifter, 'i', what) : "").append(' ').append(column(lifter, 'b', what)).append(' ');
            all.append(what < 5 ? column(lifter, 'e', what) : "").append(' ').append(lifter.most(what)).append('\n');
        }
        for (int b = 0; b < lifter.count(1); b++) {
            all.append(condition(lifter, b)).append(' ').append(lifter.loop(b)).append(' ').append(lifter.comesTo(b));
            for (int c = 0; c < lifter.count(1); c++) {
                all.append(lifter.dominates(b, c) ? " +" : " ").append(lifter.far(b, c));
            }
            all.append('\n');
        }
        for (int sort = 0; sort < 3; sort++) {
            for (int number = 0; number < 12; number++) {
                all.append(lifter.type(sort, number)).append(' ');
            }
        }
        return all.toString();
    }
}
