/** Promises 5 and 6: what an object tells of a code doesn't hang on the codes that it had ahead of it. */
public final class AgainTest {
    private static final String[] CODES = {"k3sclcz11lcolck1-scg2r", "r", "lalb/ororh0,4,5", "laz4lbz6lbz2laz10lbz12lbz8laz16lbz18lbz14r",
        "laz4lbz6lbz2laz10lbz12lbz8r", "g1r", "laz5lbog5lbz8g2r", "laz7lbz7k0sag0r", "laz7lbz7k1og9k2or", "k1olalb/orh2,5,1",
        "k1k1k1k1k1k1wr", "lcz10laz7k0sag2k0scg0r", "iiw-oik5ooior", "k5sak6salblc/orplaorh0,8,9", "g0", "k7t", "lalb/nnlbz8g4rh0,3,5",
        "k5g2dk1-wz9g2rpr", "k1k2g3wg5oor", "la!scldsclcsdr", "k1lalb/z6rorh0,5,6", "i"
        + "!".repeat(37) + "or"};

    private AgainTest() {
    }

    public static void main(String[] args) {
        CodeLifter used = new CodeLifter();
        for (int round = 1; round < 20; round++) {
            for (int k = 0; k < CODES.length; k++) {
                again(used, CODES[k * round % CODES.length]);
            }
        }
        for (int number = 0; number + 12 < 1000; number += 12) {
            again(used, numbers(number));
        }
        putBackAndForth();
        Due.close();
    }

    private static String numbers(int first) {
        StringBuilder text = new StringBuilder();
        for (int number = first; number < first + 12; number++) {
            text.append('k').append(number).append('o');
        }
        return text.append('r').toString();
    }

    private static void again(CodeLifter used, String text) {
        Due.feed(used, text);
        CodeLifter fresh = Due.coded(text);
        Due.same("code of " + text, used.code(), fresh.count(1));
        Due.text("all of " + text, Due.everything(used), Due.everything(fresh));
        for (int how = 0; how < 2; how++) {
            for (int what = 0; what < 12; what++) {
                Due.same("run of " + text, used.run(how, 3, 1, 7, 30, what), fresh.run(how, 3, 1, 7, 30, what));
            }
        }
    }

    private static void putBackAndForth() {
        CodeLifter lifter = Due.coded("k3sclcz11lcolck1-scg2r");
        String before = Due.everything(lifter);
        Due.same("no loop", lifter.put(10, 'g', 11), 3);
        Due.text("as if told so", Due.everything(lifter), Due.everything(Due.coded("k3sclcz11lcolck1-scg11r")));
        Due.same("an end", lifter.put(2, 'r', 0), 1);
        Due.text("as if told so", Due.everything(lifter), Due.everything(Due.coded("k3scrz11lcolck1-scg11r")));
        Due.same("back", lifter.put(2, 'l', 2), 3);
        Due.same("back", lifter.put(10, 'g', 2), 4);
        Due.text("as it was", Due.everything(lifter), before);
    }
}
