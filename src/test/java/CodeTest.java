/** Promises 7 to 12: count, instruction, block, edge, dominates, loop; by codes whose answers were found by hand. */
public final class CodeTest {
    private static final int NONE = Due.NONE;
    private static final int HIDDEN = Due.HIDDEN;
    private static final String COUNTDOWN = "k3sclcz11lcolck1-scg2r";
    private static final String CAUGHT = "lalb/ororh0,4,5";
    private static final String ENTERED_TWICE = "laz5lbog5lbz8g2r";
    private static final String TWO_EXITS = "laz7lbz7k0sag0r";
    private static final String CHOICE = "laz7lbz7k1og9k2or";
    private static final String KNOT_1 = "laz4lbz6lbz2";
    private static final String KNOT_2 = "laz10lbz12lbz8";
    private static final String KNOT_3 = "laz16lbz18lbz14";

    public static void main(String[] args) {
        countdown();
        caught();
        notComeTo();
        cuts();
        edgesOnce();
        throwsWhereItGoes();
        enteredTwice();
        twoKnots();
        tangled();
        noJumpToHandler();
        loopsWithin();
        caughtBack();
        selfLoop();
        live();
        dead();
        refused();
        Due.close();
    }

    private static void instructions(CodeLifter lifter, String... columns) {
        for (int what = 0; what < columns.length; what++) {
            Due.text("instruction(.., " + what + ")", Due.column(lifter, 'i', what), columns[what]);
        }
    }

    private static void blocks(CodeLifter lifter, String... columns) {
        for (int what = 0; what < columns.length; what++) {
            Due.text("block(.., " + what + ")", Due.column(lifter, 'b', what), columns[what]);
        }
    }

    private static void edges(CodeLifter lifter, String... columns) {
        for (int what = 0; what < columns.length; what++) {
            Due.text("edge(.., " + what + ")", Due.column(lifter, 'e', what), columns[what]);
        }
    }

    private static void countdown() {
        CodeLifter lifter = Due.coded(COUNTDOWN);
        Due.text("counts", Due.counts(lifter), "12,4,4,0,1,0,0,1,14,4,0,0,0,3,0");
        instructions(lifter, "107,115,108,122,108,111,108,107,45,115,103,114", "3,2,2,11,2,0,2,1,0,2,2,0",
            "0,1,0,1,0,1,0,1,2,1,0,0", "0,0,1,1,2,2,2,2,2,2,2,3", "-1,-1,-1,-1,-1,-1,-1,-1,-1,-1,-1,-1", "0,0,0,0,0,0,0,0,0,0,0,0");
        blocks(lifter, "0,2,4,11", "1,3,10,11", "0,0,0,0", "0,1,3,2", "-1,0,1,1", "-1,1,1,-1", "0,1,1,0", "0,0,0,0",
            "0,1,0,0", "1,0,2,1", "0,4,4,0", "4,4,4,0", "-1,-1,-1,-1");
        edges(lifter, "0,1,1,2", "1,2,3,1", "0,0,0,1", "0,0,0,0", "0,0,0,0");
        Due.holds("0 dominates 3", lifter.dominates(0, 3));
        Due.holds("1 dominates 2", lifter.dominates(1, 2));
        Due.holds("2 dominates itself", lifter.dominates(2, 2));
        Due.fails("2 dominates 1", lifter.dominates(2, 1));
        Due.fails("2 dominates 3", lifter.dominates(2, 3));
        Due.same("loop(1)", lifter.loop(1), 6);
        Due.same("loop(2)", lifter.loop(2), NONE);
    }

    private static void caught() {
        CodeLifter lifter = Due.coded(CAUGHT);
        Due.text("counts", Due.counts(lifter), "7,3,2,1,0,1,0,1,11,4,0,1,0,1,0");
        instructions(lifter, "108,108,47,111,114,111,114", "0,1,0,0,0,0,0", "0,1,2,1,0,1,0", "0,0,0,0,1,2,2", "0,0,0,0,-1,-1,-1");
        blocks(lifter, "0,4,5", "3,4,6", "0,0,1", "0,2,1", "-1,0,0", "-1,-1,-1", "0,0,0", "0,0,1", "0,0,0", "1,1,2", "3,0,0", "0,0,0", "2,-1,-1");
        edges(lifter, "0,0", "1,2", "0,0", "0,0", "0,1");
    }

    private static void notComeTo() {
        CodeLifter lifter = Due.coded("g3olbrk1sa");
        Due.same("nobody comes to 4 behind r", lifter.count(1), 2);
        instructions(lifter, "103,111,108,114,107,115", "3,0,1,0,1,0", "0,-1,-1,0,-1,-1", "0,-1,-1,1,-1,-1", "-1,-1,-1,-1,-1,-1", "0,0,0,0,0,0");
        Due.same("all instructions are counted", lifter.count(0), 6);
        Due.same("no dead store that isn't come to", lifter.count(14), 0);
        Due.text("its lines", Due.told(lifter), "B0:\nB1:\nreturn;\n");
    }

    private static void cuts() {
        CodeLifter lifter = Due.coded("k1k2+pk3pk4prh1,3,6h5,9,6");
        Due.text("cut ahead of FROM, TO, AT", Due.column(lifter, 'b', 0), "0,1,3,5,6");
        Due.same("they just go on", lifter.count(2), 4);
        Due.same("nothing throws", lifter.block(1, 12), NONE);
        Due.text("the first handler", Due.column(lifter, 'i', 4), "-1,0,0,-1,-1,1,1,1,1");
        CodeLifter first = Due.coded("lalb/prorporh0,4,6h0,5,9");
        Due.same("of two the first one", first.block(0, 12), first.instruction(6, 3));
        CodeLifter unseen = Due.coded("k1prg1z2");
        Due.text("g that isn't come to cuts nothing", Due.column(unseen, 'b', 0), "0");
    }

    private static void edgesOnce() {
        CodeLifter lifter = Due.coded("laz2k1or");
        edges(lifter, "0", "1", "0", "0", "0");
        Due.same("no merge", lifter.count(5), 0);
        CodeLifter both = Due.coded("laz0r");
        edges(both, "0,0", "1,0", "0,1", "0,0", "0,0");
        CodeLifter apart = Due.coded("laz4k1or");
        edges(apart, "0,0,1", "1,2,2", "0,0,0", "0,0,0", "0,0,0");
    }

    private static void throwsWhereItGoes() {
        CodeLifter lifter = Due.coded("k1lalb/z5orh0,4,5");
        edges(lifter, "0,0,1", "1,2,2", "0,0,0", "0,0,0", "0,1,0");
        CodeLifter same = Due.coded("k1lalb/z6rorh0,5,6");
        edges(same, "0,0", "1,2", "0,0", "0,0", "0,1");
        Due.text("one edge as both", Due.column(same, 'b', 12), "2,-1,-1");
        Due.same("a merge by one edge", same.block(2, 7), 1);
        CodeLifter next = Due.coded("lalb/orh0,3,3");
        edges(next, "0", "1", "0", "0", "1");
        Due.same("a merge by what is thrown", next.block(1, 7), 1);
        Due.text("lines", Due.told(next), "block B1{\n B0:\n try{\n  t0=(a/b);\n }catch B1;\n}\nB1:\nout t0;\nreturn;\n");
    }

    private static void enteredTwice() {
        CodeLifter lifter = Due.coded(ENTERED_TWICE);
        Due.text("counts", Due.counts(lifter), "9,5,6,0,1,0,1,0,17,2,0,0,0,0,0");
        blocks(lifter, "0,2,5,7,8", "1,4,6,7,8", "0,0,0,0,0", "0,4,1,3,2", "-1,3,0,2,2", "-1,2,2,2,-1", "0,1,1,1,0", "0,0,0,0,0", "0,0,1,0,0");
        edges(lifter, "0,0,1,2,2,3", "1,2,2,3,4,1", "0,0,1,0,0,0", "1,0,0,0,0,0", "0,0,0,0,0,0");
        Due.same("loop(2)", lifter.loop(2), 14);
        Due.holds("by the edges kept 3 dominates 1", lifter.dominates(3, 1));
    }

    private static void twoKnots() {
        CodeLifter lifter = Due.coded(KNOT_1 + KNOT_2 + "r");
        Due.same("jumps", lifter.count(6), 2);
        Due.same("not reduced", lifter.count(7), 0);
        Due.text("the first ones", Due.column(lifter, 'e', 3), "1,0,0,0,0,0,1,0,0,0,0,0");
        Due.text("back by the edges kept", Due.column(lifter, 'e', 2), "0,0,1,0,0,0,0,0,1,0,0,0");
        Due.text("above", Due.column(lifter, 'b', 4), "-1,2,0,2,5,3,5");
    }

    private static void tangled() {
        CodeLifter lifter = Due.coded(KNOT_1 + KNOT_2 + KNOT_3 + "r");
        Due.text("counts", Due.counts(lifter), "19,10,18,0,0,9,-1,0,-1,1,0,0,0,0,0");
        Due.text("no jumps are told", Due.column(lifter, 'e', 3), "0,0,0,0,0,0,0,0,0,0,0,0,0,0,0,0,0,0");
        Due.text("nothing is back", Due.column(lifter, 'e', 2), "0,0,0,0,0,0,0,0,0,0,0,0,0,0,0,0,0,0");
        Due.text("above by all edges", Due.column(lifter, 'b', 4), "-1,0,0,0,3,3,3,6,6,6");
        Due.text("merges by all edges", Due.column(lifter, 'b', 7), "0,1,1,1,1,1,1,1,1,1");
        Due.text("order by all edges", Due.column(lifter, 'b', 3), "0,1,2,3,4,5,6,7,8,9");
        Due.same("line", lifter.line(0, 0), HIDDEN);
        Due.same("spell", lifter.spell(0, NONE), NONE);
        Due.same("run of the lines", lifter.run(1, 0, 0, 0, 9, 0), HIDDEN);
        Due.same("output of the lines", lifter.output(1, 0, 0, 0, 9, 0), HIDDEN);
        Due.same("run of the code", lifter.run(0, 0, 1, 0, 99, 4), 7);
        Due.same("most { }", lifter.most(1), NONE);
        Due.same("break", lifter.most(2), NONE);
        Due.same("continue", lifter.most(3), NONE);
        Due.same("most loops", lifter.most(0), 0);
        Due.same("a knot less", lifter.put(17, 'p', 0), 10);
        Due.same("two jumps then", lifter.count(6), 2);
        Due.holds("lines then", lifter.count(8) > 0);
    }

    private static void noJumpToHandler() {
        CodeLifter lifter = Due.coded("lalb/nnlbz8g4rh0,3,5");
        edges(lifter, "0,0,1,2,3,3,4", "1,3,2,3,4,5,2", "0,0,0,1,0,0,0", "0,0,1,0,0,0,0", "0,1,0,0,0,0,0");
    }

    private static void loopsWithin() {
        CodeLifter lifter = Due.coded("lcz10laz7k0sag2k0scg0r");
        Due.text("loops", Due.column(lifter, 'b', 8), "1,1,0,0,0");
        Due.same("outer", lifter.loop(0), 15);
        Due.same("inner", lifter.loop(1), 6);
        Due.text("innermost", Due.column(lifter, 'b', 5), "0,1,1,0,-1");
        Due.text("of how many", Due.column(lifter, 'b', 6), "1,2,2,1,0");
        Due.same("most loops", lifter.most(0), 2);
        Due.same("two edges back are one loop", Due.coded("laz0lbz0r").loop(0), 3);
    }

    private static void caughtBack() {
        CodeLifter lifter = Due.coded("k1olalb/orh2,5,1");
        edges(lifter, "0,1,2,2", "1,2,3,1", "0,0,0,1", "0,0,0,0", "0,0,0,1");
        Due.text("a loop that is a merge", Due.column(lifter, 'b', 7), "0,1,0,0");
        Due.same("its blocks", lifter.loop(1), 6);
    }

    private static void selfLoop() {
        CodeLifter lifter = Due.coded("g0");
        edges(lifter, "0", "0", "1", "0", "0");
        Due.same("loop(0)", lifter.loop(0), 1);
        Due.same("it comes to itself", lifter.comesTo(0), 1);
        Due.text("lines", Due.told(lifter), "loop B0{\n B0:\n continue B0;\n}\n");
    }

    private static void live() {
        CodeLifter lifter = Due.coded(TWO_EXITS);
        Due.text("live at begins", Due.column(lifter, 'b', 10), "3,2,2,0");
        Due.text("live behind ends", Due.column(lifter, 'b', 11), "2,2,3,0");
        CodeLifter held = Due.coded("k5sak6salblc/orplaorh0,8,9");
        Due.same("what the handler needs is live at the begin", held.block(0, 10), 7);
        Due.same("and behind the end", held.block(0, 11), 1);
        Due.same("no store is dead", held.count(14), 0);
        CodeLifter free = Due.coded("k5sak6salblc/or");
        Due.same("without a handler", free.block(0, 10), 6);
        Due.same("both are dead", free.count(14), 2);
    }

    private static void dead() {
        CodeLifter lifter = Due.coded("k1sak2salaork1sc");
        Due.text("the first store", Due.column(lifter, 'i', 5), "0,1,0,0,0,0,0,0,0");
        CodeLifter round = Due.coded("lasbk1sag0");
        Due.text("b is never loaded", Due.column(round, 'i', 5), "0,1,0,0,0");
        CodeLifter itself = Due.coded("lak1+sar");
        Due.same("not needed behind", itself.instruction(3, 5), 1);
        Due.same("needed ahead", itself.block(0, 10), 1);
    }

    private static void refused() {
        CodeLifter lifter = Due.coded(CHOICE);
        for (int bad : new int[] {-1, -2, 64, 40, Integer.MIN_VALUE, Integer.MAX_VALUE}) {
            Due.refuses("instruction(" + bad + ", 0)", () -> lifter.instruction(bad, 0));
            Due.refuses("instruction(0, " + bad + ")", () -> lifter.instruction(0, bad));
            Due.refuses("block(" + bad + ", 0)", () -> lifter.block(bad, 0));
            Due.refuses("block(0, " + bad + ")", () -> lifter.block(0, bad));
            Due.same("edge(" + bad + ", 0)", lifter.edge(bad, 0), HIDDEN);
            Due.same("edge(0, " + bad + ")", lifter.edge(0, bad), HIDDEN);
            Due.fails("dominates(" + bad + ", 0)", lifter.dominates(bad, 0));
            Due.fails("dominates(0, " + bad + ")", lifter.dominates(0, bad));
            Due.same("loop(" + bad + ")", lifter.loop(bad), NONE);
            Due.same("count(" + bad + ")", lifter.count(bad), HIDDEN);
        }
        Due.refuses("instruction(10, 0)", () -> lifter.instruction(10, 0));
        Due.refuses("instruction(0, 6)", () -> lifter.instruction(0, 6));
        Due.refuses("block(5, 0)", () -> lifter.block(5, 0));
        Due.refuses("block(0, 13)", () -> lifter.block(0, 13));
        Due.same("edge(6, 0)", lifter.edge(6, 0), HIDDEN);
        Due.same("edge(0, 5)", lifter.edge(0, 5), HIDDEN);
        Due.fails("dominates(5, 5)", lifter.dominates(5, 5));
        Due.same("loop(5)", lifter.loop(5), NONE);
        Due.same("count(15)", lifter.count(15), HIDDEN);
    }
}
