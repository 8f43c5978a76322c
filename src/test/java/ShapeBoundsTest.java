/** Part 2 of the terms, promises 7 to 12, 20, 21: each sentence that names a bound, at the bound and just outside of it. */
public final class ShapeBoundsTest {
    private static final int NONE = Due.NONE;
    private static final int HIDDEN = Due.HIDDEN;
    private static final String COUNTDOWN = "k3sclcz11lcolck1-scg2r";
    private static final String DIAMOND = "laz5k1og7k2or";
    private static final String ENTERED_TWICE = "laz5lbog5lbz8g2r";
    private static final String CAUGHT = "lalb/ororh0,4,5";
    private static final String KNOT_1 = "laz4lbz6lbz2";
    private static final String KNOT_2 = "laz10lbz12lbz8";
    private static final String KNOT_3 = "laz16lbz18lbz14";
    private static final int[] FAR_OFF = {-1, -2, 40, 41, 63, 64, 65, Integer.MIN_VALUE, Integer.MAX_VALUE};

    private ShapeBoundsTest() {
    }

    public static void main(String[] args) {
        order();
        dominates();
        above();
        back();
        loops();
        reduced();
        fewestJumps();
        noneAsItThrows();
        stillComeTo();
        firstOfSeveral();
        tangled();
        tangledByAll();
        merges();
        mergesOfHandlers();
        counts();
        instruction();
        block();
        innermost();
        edge();
        noSuchBlocks();
        comesTo();
        far();
        Due.close();
    }

    private static void column(String text, char of, int what, String want) {
        Due.text(of + " " + what + " of " + text, Due.column(Due.coded(text), of, what), want);
    }

    private static String chain(String last) {
        StringBuilder text = new StringBuilder();
        for (int i = 1; i < 40; i++) {
            text.append('g').append(i);
        }
        return text + last;
    }

    private static void order() {
        Due.says("ORDER: of BLOCKS gone through in depth from 0 on, EDGES in order, that in which they are left, turned about: 0 first.");
        column("r", 'b', 3, "0");
        column("g1r", 'b', 3, "0,1");
        column("g0", 'b', 3, "0");
        column("laz3rr", 'b', 3, "0,2,1");
        column(DIAMOND, 'b', 3, "0,2,1,3");
        column("g3rrg1", 'b', 3, "0,2,1");
        column(COUNTDOWN, 'b', 3, "0,1,3,2");
        column(ENTERED_TWICE, 'b', 3, "0,4,1,3,2");
        Due.same("the last of forty", Due.coded(chain("r")).block(39, 3), 39);
    }

    private static void dominates() {
        Due.says("A BLOCK DOMINATES another one (and itself), if no way from 0 to that goes without it");
        CodeLifter lifter = Due.coded(DIAMOND);
        int[][] want = {{1, 1, 1, 1}, {0, 1, 0, 0}, {0, 0, 1, 0}, {0, 0, 0, 1}};
        Due.same("blocks", lifter.count(1), 4);
        for (int b = 0; b < 4; b++) {
            for (int c = 0; c < 4; c++) {
                Due.same(b + " dominates " + c, lifter.dominates(b, c) ? 1 : 0, want[b][c]);
            }
        }
        CodeLifter chain = Due.coded(chain("g0"));
        Due.holds("0 dominates 39", chain.dominates(0, 39));
        Due.holds("38 dominates 39", chain.dominates(38, 39));
        Due.holds("39 dominates 39", chain.dominates(39, 39));
        Due.fails("39 dominates 38", chain.dominates(39, 38));
        Due.fails("39 dominates 0", chain.dominates(39, 0));
        // Three rounds that are entered twice each; in the first one it takes a second look at block 2.
        CodeLifter tangled = Due.coded("laz5ipg5lbz4" + "laz11lbz13lbz9" + "laz17lbz19lbz15" + "r");
        Due.same("tangled", tangled.count(6), NONE);
        Due.fails("1 doesn't dominate 2", tangled.dominates(1, 2));
        Due.text("above", Due.column(tangled, 'b', 4), "-1,0,0,0,3,4,4,4,7,7,7");
        Due.says("By those kept");
        Due.holds("without the jump 3 dominates 1", Due.coded(ENTERED_TWICE).dominates(3, 1));
        Due.fails("1 doesn't dominate 2", Due.coded(ENTERED_TWICE).dominates(1, 2));
    }

    private static void above() {
        Due.says("ABOVE it: the nearest other one that does.");
        column("r", 'b', 4, "-1");
        column("g0", 'b', 4, "-1");
        column("g1g2r", 'b', 4, "-1,0,1");
        column(DIAMOND, 'b', 4, "-1,0,0,0");
        column("g3rrg1", 'b', 4, "-1,2,0");
        column(ENTERED_TWICE, 'b', 4, "-1,3,0,2,2");
        Due.same("of the last of forty", Due.coded(chain("r")).block(39, 4), 38);
    }

    private static void back() {
        Due.says("An EDGE to a BLOCK that DOMINATES that from which it goes is BACK");
        column("g0", 'e', 2, "1");
        column("laz0r", 'e', 2, "0,1");
        column("g1r", 'e', 2, "0");
        column("g3rrg1", 'e', 2, "0,0");
        column("g1laz1r", 'e', 2, "0,0,1");
        column("laz0lbz2r", 'e', 2, "0,1,0,1");
        // To a lower block, but that doesn't dominate it.
        column("laz5lborg2", 'e', 1, "1,2,1");
        column("laz5lborg2", 'e', 2, "0,0,0");
        column(ENTERED_TWICE, 'e', 2, "0,0,1,0,0,0");
    }

    private static void loops() {
        Due.says("a BLOCK with one that comes BACK is a LOOP: of it are itself and all from which one comes to it BACK without going over it.");
        Due.same("itself alone", Due.coded("g0").loop(0), 1);
        Due.same("not what comes ahead", Due.coded("g1laz1r").loop(1), 2);
        Due.same("nor what is left to", Due.coded("laz0r").loop(0), 1);
        Due.same("two come back to one", Due.coded("laz0lbz0r").loop(0), 3);
        Due.same("of two ways", Due.coded("laz3g0lbz0r").loop(0), 7);
        Due.same("no loop", Due.coded("g1r").loop(0), NONE);
        CodeLifter within = Due.coded("lcz10laz7k0sag2k0scg0r");
        Due.same("the outer one", within.loop(0), 15);
        Due.same("the inner one goes not over 0", within.loop(1), 6);
        Due.same("two loops", within.count(4), 2);
        CodeLifter round = Due.coded(chain("g0"));
        Due.same("all forty", round.loop(0), (1L << 40) - 1);
        Due.same("the last two", Due.coded(chain("g38")).loop(38), 3L << 38);
        Due.same("the last alone", Due.coded(chain("g39")).loop(39), 1L << 39);
        Due.same("one loop", round.count(4), 1);
        Due.same("none", Due.coded(chain("r")).count(4), 0);
        Due.same("by a handler's edge", Due.coded("k1olalb/orh2,5,1").loop(1), 6);
    }

    private static void reduced() {
        Due.says("CODE is REDUCED, if without EDGES that are BACK there is no round any more.");
        Due.same("straight on", Due.coded("r").count(7), 1);
        Due.same("itself alone", Due.coded("g0").count(7), 1);
        Due.same("within one another", Due.coded("lcz10laz7k0sag2k0scg0r").count(7), 1);
        Due.same("no round", Due.coded("laz5lborg2").count(7), 1);
        Due.says("7 whether it is REDUCED with all EDGES (1, 0)");
        Due.same("entered twice", Due.coded(ENTERED_TWICE).count(7), 0);
        Due.same("two knots", Due.coded(KNOT_1 + KNOT_2 + "r").count(7), 0);
        Due.same("three knots", Due.coded(KNOT_1 + KNOT_2 + KNOT_3 + "r").count(7), 0);
    }

    private static void jumps(String text, int want, String which) {
        CodeLifter lifter = Due.coded(text);
        Due.same("jumps of " + text, lifter.count(6), want);
        Due.text("jumps of " + text, Due.column(lifter, 'e', 3), which);
    }

    private static void fewestJumps() {
        Due.says("JUMPS: the fewest EDGES (2 at most;");
        jumps("r", 0, "");
        jumps("g0", 0, "0");
        jumps("laz0lbz0r", 0, "0,0,0,0");
        jumps(ENTERED_TWICE, 1, "1,0,0,0,0,0");
        jumps(KNOT_1 + "r", 1, "1,0,0,0,0,0");
        jumps(KNOT_1 + KNOT_2 + "r", 2, "1,0,0,0,0,0,1,0,0,0,0,0");
        jumps(KNOT_1 + KNOT_2 + KNOT_3 + "r", NONE, "0" + ",0".repeat(17));
    }

    private static void noneAsItThrows() {
        Due.says("none to a HANDLER's BLOCK that is one as it THROWS)");
        // Blocks 2, 3, 4 are a round; it is entered from 0 to 3, as something is thrown, and from 1 to 2.
        jumps("lalb/nnlbz8g4rh0,3,5", 1, "0,0,1,0,0,0,0");
        jumps("lalb/lcz7nnlbz10g6rh0,5,7", 1, "0,0,1,0,0,0,0");
        // The same, but nothing is thrown from 0.
        jumps("k1laz5nnlbz8g4r", 1, "0,1,0,0,0,0,0");
        // To 3 as something is thrown, but not from 0.
        jumps("k1laz5nnlbz12lalb/pg4rh7,12,5", 1, "0,1,0,0,0,0,0,0");
    }

    private static void stillComeTo() {
        Due.says("without which all BLOCKS are still come to");
        // Without the edge from 0 there would be no round left to come to.
        String text = "k1plaz7lbog7lbz10g4g2";
        column(text, 'b', 0, "0,2,4,7,9,10");
        column(text, 'e', 0, "0,1,1,2,3,3,4,5");
        column(text, 'e', 1, "1,2,3,3,4,5,2,1");
        jumps(text, 1, "0,1,0,0,0,0,0,0");
    }

    private static void firstOfSeveral() {
        Due.says("of several the first (EDGES by BLOCK, then in order; of two the first one first).");
        jumps(ENTERED_TWICE, 1, "1,0,0,0,0,0");
        column(ENTERED_TWICE, 'e', 1, "1,2,2,3,4,1");
        jumps(KNOT_1 + KNOT_2 + "r", 2, "1,0,0,0,0,0,1,0,0,0,0,0");
        // Two rounds with one block in both; entered in each of the three blocks.
        String text = "laz6laz8laz6laz4laz6r";
        column(text, 'e', 0, "0,0,1,1,2,3,3,4,4");
        column(text, 'e', 1, "1,3,2,4,3,4,2,5,3");
        jumps(text, 2, "0,1,1,0,0,0,0,0,0");
    }

    private static void tangled() {
        Due.says("With more than 2 it is TANGLED: no JUMPS are told, no LINES.");
        CodeLifter lifter = Due.coded(KNOT_1 + KNOT_2 + KNOT_3 + "r");
        Due.same("jumps", lifter.count(6), NONE);
        Due.same("lines", lifter.count(8), NONE);
        Due.text("jumps", Due.column(lifter, 'e', 3), "0" + ",0".repeat(17));
        Due.same("line(0, 0)", lifter.line(0, 0), HIDDEN);
        Due.same("line(0, 1)", lifter.line(0, 1), HIDDEN);
        Due.same("line(0, 2)", lifter.line(0, 2), HIDDEN);
        Due.same("spell(0, 0)", lifter.spell(0, 0), NONE);
        Due.same("spell(0, NONE)", lifter.spell(0, NONE), NONE);
        for (int what = 0; what <= 11; what++) {
            Due.same("run of lines, " + what, lifter.run(1, 1, 1, 0, 200, what), HIDDEN);
            Due.fails("run of the code, " + what, lifter.run(0, 1, 1, 0, 200, what) == HIDDEN);
        }
        Due.same("output of lines", lifter.output(1, 1, 1, 0, 200, 0), HIDDEN);
        Due.same("most(1)", lifter.most(1), NONE);
        Due.same("most(2)", lifter.most(2), NONE);
        Due.same("most(3)", lifter.most(3), NONE);
        Due.same("most(0)", lifter.most(0), 0);
        Due.same("most(4)", lifter.most(4), 0);
        Due.same("most(5)", lifter.most(5), 1);
        Due.same("most(6)", lifter.most(6), 9);
        Due.same("most(7)", lifter.most(7), 4);
        Due.same("statements are told", lifter.statement(9, 0, 0), 6);
        Due.same("conditions are told", lifter.condition(0, 0), 'a');
        Due.says("(3 to 8 by EDGES KEPT; TANGLED: by all.)");
        Due.text("above", Due.column(lifter, 'b', 4), "-1,0,0,0,3,3,3,6,6,6");
        Due.text("merges", Due.column(lifter, 'b', 7), "0,1,1,1,1,1,1,1,1,1");
        Due.same("merges", lifter.count(5), 9);
        Due.same("a knot less", lifter.put(17, 'p', 0), 10);
        Due.same("two are not too many", lifter.count(6), 2);
        Due.holds("lines then", lifter.count(8) > 0);
        Due.same("the first line", lifter.spell(0, 0), 'B');
        Due.same("a knot more", lifter.put(17, 'z', 14), 10);
        Due.same("no lines then", lifter.count(8), NONE);
        Due.same("not even the first", lifter.spell(0, 0), NONE);
    }

    private static void tangledByAll() {
        Due.says("(3 to 8 by EDGES KEPT; TANGLED: by all.)");
        CodeLifter lifter = Due.coded(KNOT_1 + KNOT_2 + KNOT_3 + "g18");
        Due.same("jumps", lifter.count(6), NONE);
        Due.text("the last goes to itself", Due.column(lifter, 'e', 2), "0" + ",0".repeat(17) + ",1");
        Due.same("a loop", lifter.count(4), 1);
        Due.same("its block", lifter.loop(9), 1L << 9);
        Due.same("no loop", lifter.loop(8), NONE);
        Due.text("order", Due.column(lifter, 'b', 3), "0,1,2,3,4,5,6,7,8,9");
        Due.text("above", Due.column(lifter, 'b', 4), "-1,0,0,0,3,3,3,6,6,6");
        Due.text("innermost", Due.column(lifter, 'b', 5), "-1" + ",-1".repeat(8) + ",9");
        Due.text("of how many", Due.column(lifter, 'b', 6), "0,0,0,0,0,0,0,0,0,1");
        Due.text("merges", Due.column(lifter, 'b', 7), "0,1,1,1,1,1,1,1,1,1");
        Due.text("loops", Due.column(lifter, 'b', 8), "0,0,0,0,0,0,0,0,0,1");
        Due.holds("6 dominates 9", lifter.dominates(6, 9));
        Due.fails("7 doesn't", lifter.dominates(7, 9));
        Due.same("most loops", lifter.most(0), 1);
        Due.same("from all to the last", lifter.comesTo(9), 1023);
        Due.same("far", lifter.far(0, 9), 6);
        Due.same("the code runs", lifter.run(0, 0, 0, 0, 200, 4), 200);
        Due.same("its lines don't", lifter.run(1, 0, 0, 0, 200, 4), HIDDEN);
    }

    private static void merges() {
        Due.says("MERGE: a BLOCK of two or more KEPT EDGES that aren't BACK");
        column("g1r", 'b', 7, "0,0");
        column("laz4k1or", 'b', 7, "0,0,1");
        column("laz6lbz6k1or", 'b', 7, "0,0,0,1");
        column("laz8lbz8lcz8k1or", 'b', 7, "0,0,0,0,1");
        column("laz2r", 'b', 7, "0,0");
        // An edge back is none of them, nor is a jump.
        column("g1laz1r", 'b', 7, "0,0,0");
        column("laz0lbz0r", 'b', 7, "0,0,0");
        column(ENTERED_TWICE, 'b', 7, "0,0,0,0,0");
        column("laz3g3lbz3r", 'b', 7, "0,0,1,0");
        Due.same("none", Due.coded(COUNTDOWN).count(5), 0);
        Due.same("one", Due.coded("laz4k1or").count(5), 1);
        Due.same("two", Due.coded("laz3g9lbz7k5ok2or").count(5), 2);
    }

    private static void mergesOfHandlers() {
        Due.says("or AT of a HANDLER to which an EDGE goes as something THROWS.");
        column(CAUGHT, 'b', 7, "0,0,1");
        column("latrh0,2,2", 'b', 7, "0,1");
        column("k1lalb/z6rorh0,5,6", 'b', 7, "0,0,1");
        column("lalb/olalb%orororh0,4,9h4,8,11", 'b', 7, "0,0,0,1,1");
        column("k1olalb/orh2,5,1", 'b', 7, "0,1,0,0");
        // Nothing is thrown to it: it is a block as others.
        column("k1olalb*orh2,5,1", 'b', 7, "0,0,0,0");
        column("lalb/orh0,2,3", 'b', 7, "0,0,0");
    }

    private static void counts() {
        Due.says("HIDDEN: no CODE (but 12), no such what.");
        CodeLifter none = new CodeLifter();
        CodeLifter lifter = Due.coded(COUNTDOWN);
        Due.text("counts", Due.counts(lifter), "12,4,4,0,1,0,0,1,14,4,0,0,0,3,0");
        for (int what : new int[] {-1, 15, 16, 64, Integer.MIN_VALUE, Integer.MAX_VALUE}) {
            Due.same("count(" + what + ")", lifter.count(what), HIDDEN);
        }
        for (int what = -2; what <= 16; what++) {
            Due.same("no code: count(" + what + ")", none.count(what), what == 12 ? 0 : HIDDEN);
        }
        none.feed('o', 0, 0, 0, 0);
        Due.same("not right", none.code(), -4);
        for (int what = -2; what <= 16; what++) {
            Due.same("still none: count(" + what + ")", none.count(what), what == 12 ? 1 : HIDDEN);
        }
        Due.says("11 T (the most on the stack at a BLOCK's begin, or end)");
        Due.same("none", Due.coded("r").count(11), 0);
        Due.same("within a block alone", Due.coded("k1k2k3pppr").count(11), 0);
        Due.same("at an end", Due.coded("k1k2k3ppg6pr").count(11), 1);
        Due.same("at a begin by a throw", Due.coded("latrh0,2,2").count(11), 1);
        Due.same("six", Due.coded("k1".repeat(6) + "g7r").count(11), 6);
    }

    private static void instruction() {
        Due.says("2 how many are on the stack ahead of it (NONE: it isn't come to), 3 its BLOCK (NONE), 4 its HANDLER (NONE), "
            + "5 whether it is a DEAD store (1, 0). NoSuchElementException: no such ones.");
        CodeLifter lifter = Due.coded("k7sag4olbrh2,4,4");
        Due.text("on the stack", Due.column(lifter, 'i', 2), "0,1,0,-1,0,1");
        Due.text("block", Due.column(lifter, 'i', 3), "0,0,1,-1,2,2");
        Due.text("handler", Due.column(lifter, 'i', 4), "-1,-1,0,0,-1,-1");
        Due.text("dead", Due.column(lifter, 'i', 5), "0,1,0,0,0,0");
        Due.text("number", Due.column(lifter, 'i', 1), "7,0,4,0,1,0");
        for (int bad : FAR_OFF) {
            Due.refuses("instruction(" + bad + ", 0)", () -> lifter.instruction(bad, 0));
            Due.refuses("instruction(0, " + bad + ")", () -> lifter.instruction(0, bad));
            Due.refuses("no code: instruction(" + bad + ", 0)", () -> new CodeLifter().instruction(bad, 0));
        }
        Due.refuses("instruction(6, 0)", () -> lifter.instruction(6, 0));
        Due.refuses("instruction(0, 6)", () -> lifter.instruction(0, 6));
        Due.refuses("instruction(5, 6)", () -> lifter.instruction(5, 6));
        Due.refuses("no code", () -> new CodeLifter().instruction(0, 0));
        Due.same("the first", lifter.instruction(0, 0), 'k');
        Due.same("the last", lifter.instruction(5, 5), 0);
    }

    private static void block() {
        Due.says("12 the HANDLER's BLOCK to which it may THROW (NONE). NoSuchElementException: no such ones.");
        CodeLifter lifter = Due.coded(CAUGHT);
        String[] caught = {"0,4,5", "3,4,6", "0,0,1", "0,2,1", "-1,0,0", "-1,-1,-1", "0,0,0", "0,0,1", "0,0,0", "1,1,2", "3,0,0", "0,0,0",
            "2,-1,-1"};
        String[] counted = {"0,2,4,11", "1,3,10,11", "0,0,0,0", "0,1,3,2", "-1,0,1,1", "-1,1,1,-1", "0,1,1,0", "0,0,0,0", "0,1,0,0",
            "1,0,2,1", "0,4,4,0", "4,4,4,0", "-1,-1,-1,-1"};
        for (int what = 0; what <= 12; what++) {
            column(CAUGHT, 'b', what, caught[what]);
            column(COUNTDOWN, 'b', what, counted[what]);
        }
        column("lalb*ororh0,4,5", 'b', 12, "-1,-1");
        column("lalb/orh0,2,3", 'b', 12, "-1,-1,-1");
        column("lalb/orh2,3,3", 'b', 12, "-1,2,-1");
        for (int bad : FAR_OFF) {
            Due.refuses("block(" + bad + ", 0)", () -> lifter.block(bad, 0));
            Due.refuses("block(0, " + bad + ")", () -> lifter.block(0, bad));
            Due.refuses("no code: block(" + bad + ", 0)", () -> new CodeLifter().block(bad, 0));
        }
        Due.refuses("block(3, 0)", () -> lifter.block(3, 0));
        Due.refuses("block(0, 13)", () -> lifter.block(0, 13));
        Due.refuses("no code", () -> new CodeLifter().block(0, 0));
        Due.same("the first", lifter.block(0, 0), 0);
        Due.same("the last", lifter.block(2, 12), NONE);
        CodeLifter chain = Due.coded(chain("g0"));
        Due.same("the fortieth", chain.block(39, 1), 39);
        Due.refuses("block(40, 1)", () -> chain.block(40, 1));
    }

    private static void innermost() {
        Due.says("5 the LOOP of fewest BLOCKS that it is of (of several the lowest; NONE), 6 of how many LOOPS it is");
        column("g1r", 'b', 5, "-1,-1");
        column("g0", 'b', 5, "0");
        column("lcz10laz7k0sag2k0scg0r", 'b', 5, "0,1,1,0,-1");
        column("lcz10laz7k0sag2k0scg0r", 'b', 6, "1,2,2,1,0");
        column("g1laz1r", 'b', 5, "-1,1,-1");
        Due.says("0 the most LOOPS of which a BLOCK is");
        Due.same("none", Due.coded("r").most(0), 0);
        Due.same("one", Due.coded("g0").most(0), 1);
        Due.same("two", Due.coded("lcz10laz7k0sag2k0scg0r").most(0), 2);
        CodeLifter deep = Due.coded(nested());
        Due.same("thirteen within one another", deep.most(0), 13);
        Due.same("the last is of all", deep.block(13, 6), 13);
        Due.same("its own is that of fewest", deep.block(13, 5), 13);
    }

    /** Thirteen begins of loops in a row, then as many ways back to them. */
    private static String nested() {
        StringBuilder text = new StringBuilder("g1");
        for (int k = 1; k < 13; k++) {
            text.append('g').append(k + 1);
        }
        for (int k = 13; k > 0; k--) {
            text.append("laz").append(k);
        }
        return text.append('r').toString();
    }

    private static void edge() {
        Due.says("The i-th EDGE: from (0), to (1), 2 whether it is BACK, 3 a JUMP, 4 as something THROWS (1, 0). HIDDEN: no such ones.");
        CodeLifter lifter = Due.coded(COUNTDOWN);
        Due.same("the first", lifter.edge(0, 0), 0);
        Due.same("the last", lifter.edge(3, 1), 1);
        Due.same("the last", lifter.edge(3, 2), 1);
        Due.same("the last", lifter.edge(3, 4), 0);
        Due.same("edge(4, 0)", lifter.edge(4, 0), HIDDEN);
        Due.same("edge(0, 5)", lifter.edge(0, 5), HIDDEN);
        Due.same("edge(3, 5)", lifter.edge(3, 5), HIDDEN);
        for (int bad : FAR_OFF) {
            Due.same("edge(" + bad + ", 0)", lifter.edge(bad, 0), HIDDEN);
            Due.same("edge(0, " + bad + ")", lifter.edge(0, bad), HIDDEN);
        }
        Due.same("no code", new CodeLifter().edge(0, 0), HIDDEN);
        Due.same("no edge", Due.coded("r").edge(0, 0), HIDDEN);
    }

    private static void noSuchBlocks() {
        CodeLifter lifter = Due.coded(COUNTDOWN);
        CodeLifter none = new CodeLifter();
        Due.says("Whether a BLOCK DOMINATES another one. False: no such ones.");
        Due.fails("dominates(4, 4)", lifter.dominates(4, 4));
        Due.fails("dominates(0, 4)", lifter.dominates(0, 4));
        Due.fails("dominates(4, 0)", lifter.dominates(4, 0));
        Due.fails("no code", none.dominates(0, 0));
        Due.holds("dominates(0, 3)", lifter.dominates(0, 3));
        for (int bad : FAR_OFF) {
            Due.fails("dominates(0, " + bad + ")", lifter.dominates(0, bad));
            Due.fails("dominates(" + bad + ", 0)", lifter.dominates(bad, 0));
        }
        Due.says("BLOCKS of a LOOP, told by its BLOCK (bits). NONE: it is no LOOP, no such one.");
        Due.same("loop(1)", lifter.loop(1), 6);
        Due.same("loop(0)", lifter.loop(0), NONE);
        Due.same("loop(3)", lifter.loop(3), NONE);
        Due.same("loop(4)", lifter.loop(4), NONE);
        Due.same("no code", none.loop(0), NONE);
        for (int bad : FAR_OFF) {
            Due.same("loop(" + bad + ")", lifter.loop(bad), NONE);
            Due.same("loop(" + bad + ") of g0", Due.coded("g0").loop(bad), NONE);
        }
    }

    private static void comesTo() {
        Due.says("BLOCKS from which one can come to this one by EDGES (bits; by all EDGES; itself if by one or more). NONE: no such one.");
        Due.same("not to itself", Due.coded("r").comesTo(0), 0);
        Due.same("to itself by one", Due.coded("g0").comesTo(0), 1);
        Due.same("to itself by two", Due.coded("laz0lbz0r").comesTo(0), 3);
        Due.same("ahead of it", Due.coded("g1r").comesTo(1), 1);
        Due.same("over a jump", Due.coded(ENTERED_TWICE).comesTo(1), 15);
        CodeLifter straight = Due.coded(chain("r"));
        Due.same("39 come to the last", straight.comesTo(39), (1L << 39) - 1);
        Due.same("none comes to the first", straight.comesTo(0), 0);
        Due.same("all come round", Due.coded(chain("g0")).comesTo(39), (1L << 40) - 1);
        Due.same("the last comes to itself", Due.coded(chain("g39")).comesTo(39), (1L << 40) - 1);
        Due.same("block 40", straight.comesTo(40), NONE);
        Due.same("no code", new CodeLifter().comesTo(0), NONE);
        for (int bad : FAR_OFF) {
            Due.same("comesTo(" + bad + ")", straight.comesTo(bad), NONE);
            Due.same("comesTo(" + bad + ") of g0", Due.coded("g0").comesTo(bad), NONE);
        }
    }

    private static void far() {
        Due.says("The fewest EDGES from one BLOCK to another one (0: the same). NONE: there is no way, no such ones.");
        CodeLifter round = Due.coded(chain("g0"));
        Due.same("the same", round.far(39, 39), 0);
        Due.same("the next", round.far(0, 1), 1);
        Due.same("the last", round.far(0, 39), 39);
        Due.same("all round", round.far(1, 0), 39);
        Due.same("back to the first", round.far(39, 0), 1);
        CodeLifter lifter = Due.coded("laz6lbz6k1or");
        Due.same("the shorter way", lifter.far(0, 3), 1);
        Due.same("no way back", lifter.far(3, 0), NONE);
        Due.same("one of two ways", Due.coded("laz5k1og6rr").far(0, 3), 2);
        Due.same("no way aside", Due.coded("laz3rr").far(1, 2), NONE);
        Due.same("over a jump", Due.coded(ENTERED_TWICE).far(0, 1), 1);
        Due.same("far(0, 4)", lifter.far(0, 4), NONE);
        Due.same("far(4, 0)", lifter.far(4, 0), NONE);
        Due.same("far(4, 4)", lifter.far(4, 4), NONE);
        Due.same("no code", new CodeLifter().far(0, 0), NONE);
        for (int bad : FAR_OFF) {
            Due.same("far(0, " + bad + ")", lifter.far(0, bad), NONE);
            Due.same("far(" + bad + ", 0)", lifter.far(bad, 0), NONE);
            Due.same("far of none", lifter.far(bad, bad), NONE);
        }
    }
}
