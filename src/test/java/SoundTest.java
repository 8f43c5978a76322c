import java.io.IOException;
import java.nio.file.Files;
import java.nio.file.Path;
import java.util.ArrayList;
import java.util.List;

/**
 * Promises 8, 15 to 19: what is told of random codes shows in their runs (src/test/golden/codes.txt, or another file). A variable that is a truth is
 * 0 or 1 then; a dead store may as well drop its value; an instruction that isn't come to may be any other one; lines
 * stand within one another, and each break, continue, goto and catch finds its way.
 */
public final class SoundTest {
    private static final int[][] STARTS = {{0, 0, 1, 40}, {1, 5, 2, 40}, {-7, 1, 3, 40}, {2, 2, 77, 3}, {9, -1, 5, 200}};
    private static int truths = 0;
    private static int dead = 0;
    private static int idle = 0;

    private SoundTest() {
    }

    public static void main(String[] args) throws IOException {
        for (String text : Files.readAllLines(Path.of(args.length > 0 ? args[0] : "src/test/golden/codes.txt"))) {
            CodeLifter lifter = Due.coded(text);
            truths(lifter, text);
            nested(lifter, text);
            for (int i = 0; i < lifter.count(0); i++) {
                if (lifter.instruction(i, 5) == 1) {
                    dropped(text, i);
                } else if (lifter.instruction(i, 2) == Due.NONE) {
                    replaced(text, i);
                }
            }
        }
        Due.holds("truths: " + truths, truths > 20);
        Due.holds("dead stores: " + dead, dead > 100);
        Due.holds("not come to: " + idle, idle > 100);
        Due.close();
    }

    private static int run(CodeLifter lifter, int[] start, int what) {
        return lifter.run(0, start[0], start[1], start[2], start[3], what);
    }

    private static void truths(CodeLifter lifter, String text) {
        for (int v = 0; v < 6; v++) {
            for (int[] start : STARTS) {
                int value = run(lifter, start, 5 + v);
                boolean isTruth = lifter.type(0, v) == 1;
                Due.holds("variable " + v + " is " + value + " in " + text, !isTruth || value == 0 || value == 1);
                truths += isTruth && value == 1 ? 1 : 0;
            }
        }
    }

    private static void dropped(String text, int i) {
        CodeLifter kept = Due.coded(text);
        CodeLifter changed = Due.coded(text);
        Due.same("as many blocks", changed.put(i, 'p', 0), kept.count(1));
        for (int[] start : STARTS) {
            for (int what : new int[] {0, 1, 2, 3, 4, 11}) {
                Due.same("run " + what + " without store " + i + " of " + text, run(changed, start, what), run(kept, start, what));
            }
        }
        dead++;
    }

    private static void replaced(String text, int i) {
        CodeLifter kept = Due.coded(text);
        CodeLifter changed = Due.coded(text);
        Due.same("as many blocks", changed.put(i, 'r', 0), kept.count(1));
        Due.text("told of " + text, Due.told(changed), Due.told(kept));
        for (int what = 0; what <= 14; what++) {
            Due.same("count(" + what + ") without " + i + " of " + text, changed.count(what), kept.count(what));
        }
        idle++;
    }

    /** Walks over the lines; what each { opens is left open until its } comes. */
    private static void nested(CodeLifter lifter, String text) {
        List<String> open = new ArrayList<>();
        int labels = 0;
        for (int i = 0; i < lifter.count(8); i++) {
            String line = Due.spelled(lifter, i);
            String told = "line " + i + " of " + text;
            boolean closes = line.startsWith("}");
            if (closes || line.equals("else{")) {
                Due.holds(told + " ends something", !open.isEmpty());
                String ended = open.isEmpty() ? "" : open.remove(open.size() - 1);
                Due.holds(told + " ends " + ended, !line.equals("else{") || ended.startsWith("if "));
                Due.holds(told + " ends " + ended, line.startsWith("}catch") == ended.equals("try{"));
            }
            Due.same(told + ": depth", lifter.line(i, 2), open.size());
            leads(line, open, told);
            if (line.endsWith("{") && !closes) {
                open.add(line);
            }
            labels += line.endsWith(":") ? 1 : 0;
        }
        Due.same("all is closed in " + text, open.size(), 0);
        Due.same("each block is told in " + text, labels, lifter.count(8) < 0 ? 0 : lifter.count(1));
    }

    private static void leads(String line, List<String> open, String told) {
        int at = line.lastIndexOf(' ');
        String goal = line.substring(at + 1).replace(";", "{");
        if (line.startsWith("break ")) {
            Due.holds(told + " leads on", open.contains("block " + goal));
        } else if (line.startsWith("continue ")) {
            Due.holds(told + " leads on", open.contains("loop " + goal));
        } else if (line.startsWith("}catch ")) {
            Due.holds(told + " leads on", open.contains("block " + goal) || open.contains("loop " + goal));
        }
    }
}
