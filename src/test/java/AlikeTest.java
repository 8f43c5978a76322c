/**
 * Promises 6, 11, 12, 15, 18, 19: codes that are changed at random, put by put, run alike as code and as lines; and
 * who dominates whom is what it is when looked for block by block.
 */
public final class AlikeTest {
    private static final int NONE = Due.NONE;
    private static final String SIGNS = "kkkllllllssssiioopddwwnn!!++--*//%<=ggggzzzzzzzzzztr";
    private static int seed = 20261118;
    private static int withJumps = 0;
    private static int thrown = 0;
    private static int longest = 0;

    private AlikeTest() {
    }

    public static void main(String[] args) {
        for (int round = 0; round < 100; round++) {
            String text = sections(12 + draw(10), 1 + draw(5));
            String handlers = round % 3 == 0 ? "" : "h0," + (3 + draw(6)) + ",1h2,16,1";
            for (int step = 0; step < 6; step++) {
                text = change(text, handlers);
            }
        }
        Due.holds("some had jumps: " + withJumps, withJumps > 20);
        Due.holds("some threw: " + thrown, thrown > 50);
        Due.holds("some were long: " + longest, longest > 30);
        Due.close();
    }

    private static int draw(int bound) {
        seed = seed * 1103515245 + 12345;
        return (seed >>> 8) % bound;
    }

    /** Two or four instructions each, z's to where others begin; 1 is a place with one on the stack. */
    private static String sections(int size, int width) {
        int[] begins = new int[size];
        int count = 0;
        for (int at = 0; at < size; at += count % width == 0 ? 4 : 2) {
            begins[count] = at;
            count++;
        }
        StringBuilder text = new StringBuilder();
        for (int k = 0; k + 1 < count; k++) {
            int goal = draw(5) == 0 ? draw(k + 1) : Math.min(count - 1, k + 1 + draw(4));
            text.append(begins[k + 1] - begins[k] == 4 ? "lalb/z" : draw(2) == 0 ? "lcz" : "iz").append(begins[goal]);
        }
        return text.append("lco".repeat(2)).append("r").toString();
    }

    private static String change(String text, String handlers) {
        CodeLifter lifter = Due.fed(text + handlers);
        if (lifter.code() < 1) {
            lifter = Due.coded(text);
        }
        for (int step = 0; step < 12; step++) {
            char sign = SIGNS.charAt(draw(SIGNS.length()));
            int number = sign == 'k' ? draw(4) : "ls".indexOf(sign) >= 0 ? draw(3) : "gz".indexOf(sign) >= 0 ? draw(lifter.count(0)) : 0;
            int before = lifter.count(1);
            int blocks = lifter.put(draw(lifter.count(0)), sign, number);
            Due.holds("put answers blocks or why not", blocks == lifter.count(1) || blocks >= -6 && blocks <= NONE);
            Due.holds("a refused put changes nothing", blocks > 0 || before == lifter.count(1));
        }
        String changed = text(lifter);
        alike(lifter, changed);
        dominators(lifter, changed);
        notice(lifter);
        return changed;
    }

    private static String text(CodeLifter lifter) {
        StringBuilder text = new StringBuilder();
        for (int i = 0; i < lifter.count(0); i++) {
            char sign = (char) lifter.instruction(i, 0);
            int number = lifter.instruction(i, 1);
            text.append(sign);
            if (sign == 'l' || sign == 's') {
                text.append((char) ('a' + number));
            } else if (sign == 'k' || sign == 'g' || sign == 'z') {
                text.append(number);
            }
        }
        return text.toString();
    }

    private static void alike(CodeLifter lifter, String text) {
        if (lifter.count(8) == NONE) {
            return;
        }
        for (int run = 0; run < 4; run++) {
            int a = draw(5) - 2;
            int b = draw(3) - 1;
            int start = seed;
            int blocks = 1 + draw(run == 0 ? 8 : 200);
            for (int what = 0; what < 12; what++) {
                int code = lifter.run(0, a, b, start, blocks, what);
                Due.same(text + " run(1, " + a + ", " + b + ", " + start + ", " + blocks + ", " + what + ")",
                    lifter.run(1, a, b, start, blocks, what), code);
            }
        }
    }

    /** One dominates another one, if without it there is no way from 0 over the kept edges. */
    private static void dominators(CodeLifter lifter, String text) {
        int blocks = lifter.count(1);
        for (int block = 0; block < Math.min(blocks, 12); block++) {
            long come = comeTo(lifter, block);
            for (int other = 0; other < Math.min(blocks, 12); other++) {
                boolean want = (come >>> other & 1) == 0;
                Due.same(text + " dominates(" + block + ", " + other + ")", lifter.dominates(block, other) ? 1 : 0, want ? 1 : 0);
            }
        }
    }

    private static long comeTo(CodeLifter lifter, int without) {
        long come = without == 0 ? 0 : 1;
        for (int round = 0; round < lifter.count(1); round++) {
            for (int e = 0; e < lifter.count(2); e++) {
                int goal = lifter.edge(e, 1);
                if (goal != without && lifter.edge(e, 3) == 0 && (come >>> lifter.edge(e, 0) & 1) != 0) {
                    come |= 1L << goal;
                }
            }
        }
        return come;
    }

    private static void notice(CodeLifter lifter) {
        withJumps += lifter.count(6) > 0 ? 1 : 0;
        longest = Math.max(longest, lifter.count(8));
        for (int e = 0; e < lifter.count(2); e++) {
            thrown += lifter.edge(e, 4);
        }
    }
}
