/** Part 3 of the terms, promises 13, 14, 17: each sentence that names a bound, at the bound and just outside of it. */
public final class LiftBoundsTest {
    private static final int NONE = Due.NONE;
    private static final int HIDDEN = Due.HIDDEN;
    private static final int[] FAR_OFF = {-1, -2, 40, 64, 160, 1000, Integer.MIN_VALUE, Integer.MAX_VALUE};

    private LiftBoundsTest() {
    }

    public static void main(String[] args) {
        names();
        effects();
        aheadOfStatements();
        aheadOfStores();
        popped();
        twice();
        exchange();
        bothWays();
        ends();
        endsWithin();
        endsOfZ();
        numbered();
        truths();
        truthsOfT();
        live();
        liveInHandlers();
        dead();
        statement();
        condition();
        type();
        unlike();
        Due.close();
    }

    private static void lifts(String text, int block, String want) {
        Due.text("statements of " + text, Due.statements(Due.coded(text), block), want);
    }

    private static void names() {
        Due.says("at its begin the stack, from the bottom on, is the NAMES T0, T1 ..");
        lifts("g1r", 1, "return;");
        lifts("k5g2or", 1, "out t0;return;");
        lifts("k1k2k3k4k5k6g7oooooor", 0, "t0=1;t1=2;t2=3;t3=4;t4=5;t5=6;");
        lifts("k1k2k3k4k5k6g7oooooor", 1, "out t5;out t4;out t3;out t2;out t1;out t0;return;");
        lifts("k7torh0,2,2", 1, "out t0;return;");
    }

    private static void effects() {
        Due.says("One has EFFECTS, if there is IN, / or % in it.");
        String[] with = {"i", "lalb/", "lalb%", "i!", "in", "iii++", "lalb/!", "lak1lb%+", "lalb/k1<", "k1k2k3lalb%*-=n"};
        for (String text : with) {
            Due.same("effects of " + text, Due.coded(text + "or").statement(0, 0, 3), 1);
        }
        String[] without = {"k0", "la", "lalb+", "lalb-", "lalb*", "lalb<", "lalb=", "la!", "lan", "lalb+lclb*-!n"};
        for (String text : without) {
            Due.same("effects of " + text, Due.coded(text + "or").statement(0, 0, 3), 0);
        }
        Due.same("of an X with an input", Due.coded("idpor").statement(0, 1, 3), 0);
        Due.same("of return", Due.coded("r").statement(0, 0, 3), 0);
    }

    private static void aheadOfStatements() {
        Due.says("Ahead of each one, from the bottom on, each EXPRESSION on the stack (what the STATEMENT pops is no longer there) "
            + "that has EFFECTS");
        lifts("ilasfor", 0, "x0=in;f=a;out x0;return;");
        lifts("ik5oor", 0, "x0=in;out 5;out x0;return;");
        lifts("iipor", 0, "x0=in;in;out x0;return;");
        lifts("ilat", 0, "x0=in;throw a;");
        lifts("ir", 0, "x0=in;return;");
        lifts("ilandpopr", 0, "x0=in;x1=-a;out x1;return;");
        lifts("iilalb/lalb%k5ooooor", 0, "x0=in;x1=in;x2=(a/b);x3=(a%b);out 5;out x3;out x2;out x1;out x0;return;");
        // What has none stays.
        lifts("lalb+k5oor", 0, "out 5;out (a+b);return;");
        lifts("lalc+ik5ooor", 0, "x0=in;out 5;out x0;out (a+c);return;");
        // What the statement pops is no longer there.
        lifts("ior", 0, "out in;return;");
        lifts("isar", 0, "a=in;return;");
        lifts("it", 0, "throw in;");
        lifts("ii+or", 0, "out (in+in);return;");
    }

    private static void aheadOfStores() {
        Due.says("(and for s: or in which that VARIABLE is)");
        lifts("lak5saor", 0, "x0=a;a=5;out x0;return;");
        lifts("lalb+nk5saor", 0, "x0=-(a+b);a=5;out x0;return;");
        lifts("lalb+nk5sbor", 0, "x0=-(a+b);b=5;out x0;return;");
        lifts("lalb+nk5scor", 0, "c=5;out -(a+b);return;");
        lifts("lfk5sfor", 0, "x0=f;f=5;out x0;return;");
        for (int v = 0; v < 6; v++) {
            char own = (char) ('a' + v);
            char other = (char) ('a' + (v + 1) % 6);
            lifts("l" + own + "k5s" + own + "or", 0, "x0=" + own + ";" + own + "=5;out x0;return;");
            lifts("l" + own + "nk5s" + own + "or", 0, "x0=-" + own + ";" + own + "=5;out x0;return;");
            lifts("l" + other + "k5s" + own + "or", 0, own + "=5;out " + other + ";return;");
            lifts("l" + other + "nk5s" + own + "or", 0, own + "=5;out -" + other + ";return;");
            lifts("l" + other + "k1+k5s" + own + "or", 0, own + "=5;out (" + other + "+1);return;");
            lifts("k7k5s" + own + "or", 0, own + "=5;out 7;return;");
            lifts("k7nk5s" + own + "or", 0, own + "=5;out -7;return;");
            lifts("idpk5s" + own + "or", 0, "x0=in;" + own + "=5;out x0;return;");
            lifts("k7g2k5s" + own + "or", 1, own + "=5;out t0;return;");
        }
        lifts("lak1+sar", 0, "a=(a+1);return;");
        lifts("lalaoor", 0, "out a;out a;return;");
        lifts("lbilalalbsapppor", 0, "x0=in;x1=a;x2=a;a=b;out b;return;");
        lifts("lak5tor", 0, "throw 5;");
    }

    private static void popped() {
        Due.says("p: E, if it has EFFECTS, else nothing.");
        lifts("ipr", 0, "in;return;");
        lifts("lalb/pr", 0, "(a/b);return;");
        lifts("lalb%npr", 0, "-(a%b);return;");
        lifts("lapr", 0, "return;");
        lifts("k1pr", 0, "return;");
        lifts("lalb*pr", 0, "return;");
        // Nothing is no statement: nothing comes ahead of it.
        lifts("ilapor", 0, "out in;return;");
    }

    private static void twice() {
        Due.says("d: what is neither a number nor a NAME is put into a fresh X first (a STATEMENT like others).");
        lifts("k3d+or", 0, "out (3+3);return;");
        lifts("k0d+or", 0, "out (0+0);return;");
        lifts("lad+or", 0, "out (a+a);return;");
        lifts("k5g2d+or", 1, "out (t0+t0);return;");
        lifts("idd++or", 0, "x0=in;out (x0+(x0+x0));return;");
        lifts("k3nd+or", 0, "x0=-3;out (x0+x0);return;");
        lifts("la!d+or", 0, "x0=!a;out (x0+x0);return;");
        lifts("lak1+d+or", 0, "x0=(a+1);out (x0+x0);return;");
        lifts("iid+-or", 0, "x0=in;x1=in;out (x0-(x1+x1));return;");
        lifts("ik3d+-or", 0, "out (in-(3+3));return;");
    }

    private static void exchange() {
        Due.says("w: if both have EFFECTS, as if a STATEMENT came now, but for the top.");
        lifts("iiw-or", 0, "x0=in;out (in-x0);return;");
        lifts("iilalb/w-+or", 0, "x0=in;x1=in;out (x0+((a/b)-x1));return;");
        lifts("ilaiiwoooor", 0, "x0=in;x1=in;x2=in;out x1;out x2;out a;out x0;return;");
        // Not if but one of them has, nor for what is below.
        lifts("ilaw-or", 0, "out (a-in);return;");
        lifts("laiw-or", 0, "out (in-a);return;");
        lifts("lalbw-or", 0, "out (b-a);return;");
        lifts("ilalbw--or", 0, "out (in-(b-a));return;");
        lifts("iilaw--or", 0, "out (in-(a-in));return;");
        lifts("ilaiw--or", 0, "out (in-(in-a));return;");
        lifts("k5g2iw-or", 1, "out (in-t0);return;");
    }

    private static void bothWays() {
        Due.says("A z both ways of which go to one BLOCK: as p, and it just goes on.");
        CodeLifter lifter = Due.coded("lalb/z4r");
        Due.text("as p", Due.statements(lifter, 0), "(a/b);");
        Due.same("no condition", lifter.condition(0, NONE), NONE);
        Due.same("no condition", lifter.condition(0, 0), NONE);
        Due.same("an edge", lifter.count(2), 1);
        lifts("laz2r", 0, "");
        lifts("k5iz3or", 0, "in;t0=5;");
        lifts("iiz3or", 0, "x0=in;in;t0=x0;");
        lifts("ilaz3or", 0, "t0=in;");
        Due.same("no if", Due.coded("laz2r").line(1, 0), 11);
        Due.same("apart", Due.coded("laz3rr").condition(0, NONE), 1);
    }

    private static void ends() {
        Due.says("At the end of a BLOCK that goes on (z's EXPRESSION is popped): from the bottom on (with nothing put into X ahead of these), "
            + "Tk=E, if it isn't Tk");
        lifts("iig3-or", 0, "t0=in;t1=in;");
        lifts("k5lbg3-or", 0, "t0=5;t1=b;");
        lifts("k1k2g3g4+or", 1, "");
        lifts("k1k2g3pk3g6+or", 1, "t1=3;");
        lifts("k1k2g3dpg6+or", 1, "");
        lifts("k1k2g3wwg6+or", 1, "");
        // One that doesn't go on puts nothing there.
        lifts("k1k2r", 0, "return;");
        lifts("k1k2t", 0, "throw 2;");
        // One that just goes on does, as one with z.
        lifts("k1k2porh0,2,0", 0, "t0=1;t1=2;");
        lifts("k1laz5orpr", 0, "t0=1;");
    }

    private static void endsWithin() {
        Due.says("if Tk is in one of those above it, or in z's, X=Tk first (a fresh one), and this X there in its place");
        lifts("k1k2g3wg5oor", 1, "x0=t0;t0=t1;t1=x0;");
        lifts("k1g2k3wg5oor", 1, "x0=t0;t0=3;t1=x0;");
        for (int k = 0; k < 5; k++) {
            String text = "k1".repeat(k + 2) + "g" + (k + 3) + "wg" + (k + 5) + "p".repeat(k + 2) + "r";
            lifts(text, 1, "x0=t" + k + ";t" + k + "=t" + (k + 1) + ";t" + (k + 1) + "=x0;");
        }
        lifts("k1g2n!k3wg7+or", 1, "x0=t0;t0=3;t1=!-x0;");
        lifts("k1g2dd+*k3wg9oor", 1, "x0=t0;t0=3;t1=(x0*(x0+x0));");
        lifts("k1k2g3w-d*g8or", 1, "x0=(t1-t0);t0=(x0*x0);");
        lifts("k1g2k3wk5g7ppr", 1, "x0=t0;t0=3;t1=x0;t2=5;");
        lifts("k1k2g3k3wg6ooor", 1, "x0=t1;t1=3;t2=x0;");
        // Not if it is in those below, or in its own alone.
        lifts("k1g2dp!g6or", 1, "t0=!t0;");
        lifts("k1g2k1+g5or", 1, "t0=(t0+1);");
        lifts("k1k2g3wpdg6+or", 1, "t0=t1;");
        lifts("k1k2g3+k3g6+or", 1, "t0=(t0+t1);t1=3;");
        Due.says("Tk=E, if it isn't Tk; if Tk is in one of those above it");
        // What stays Tk needs no X, though it is in those above.
        lifts("k1g2dk1+g6+or", 1, "t1=(t0+1);");
    }

    private static void endsOfZ() {
        Due.says("or in z's, X=Tk first (a fresh one), and this X there in its place; then z's EXPRESSION, if it has EFFECTS, "
            + "is put into a fresh X.");
        CodeLifter steps = Due.coded("k5g2dk1-wz9g2rpr");
        Due.text("needed by z's", Due.statements(steps, 1), "x0=t0;t0=(t0-1);");
        Due.text("it is the X", Due.condition(steps, 1), "x0");
        CodeLifter below = Due.coded("k1g2k3wk5wz9prppr");
        Due.text("needed by z's alone", Due.statements(below, 1), "x0=t0;t0=3;t1=5;");
        Due.text("it is the X", Due.condition(below, 1), "x0");
        CodeLifter within = Due.coded("k5g2dk1-w!nz11g2rpr");
        Due.text("within z's", Due.condition(within, 1), "-!x0");
        CodeLifter stays = Due.coded("k5g2dz6g2pr");
        Due.text("what stays needs none", Due.statements(stays, 1), "");
        Due.text("z's has it", Due.condition(stays, 1), "t0");
        CodeLifter effects = Due.coded("k7iz5orpr");
        Due.text("with effects", Due.statements(effects, 0), "t0=7;x0=in;");
        Due.text("it is the X", Due.condition(effects, 0), "x0");
        CodeLifter both = Due.coded("k1k2g3lb/z8prpr");
        Due.text("it comes last", Due.statements(both, 1), "x0=(t1/b);");
        CodeLifter none = Due.coded("k7lalb<z7orpr");
        Due.text("without effects", Due.statements(none, 0), "t0=7;");
        Due.text("it is told there", Due.condition(none, 0), "(a<b)");
    }

    private static void numbered() {
        Due.says("X are numbered from 0 on, BLOCK by BLOCK.");
        CodeLifter lifter = Due.coded("idpog5idpoidpor");
        Due.text("of the first", Due.statements(lifter, 0), "x0=in;out x0;");
        Due.same("which", lifter.statement(0, 0, 1), 0);
        Due.same("how many", lifter.count(10), 3);
        Due.text("of the second", Due.statements(lifter, 1), "x1=in;out x1;x2=in;out x2;return;");
        // By number of blocks, not as they are told: 2 is told ahead of 1.
        CodeLifter turned = Due.coded("g6idporidpog1");
        Due.text("of block 1", Due.statements(turned, 1), "x0=in;out x0;return;");
        Due.text("of block 2", Due.statements(turned, 2), "x1=in;out x1;");
        Due.same("none", Due.coded("r").count(10), 0);
    }

    private static String types(CodeLifter lifter, int sort, int names) {
        StringBuilder all = new StringBuilder();
        for (int number = 0; number < names; number++) {
            all.append(lifter.type(sort, number));
        }
        return all.toString();
    }

    private static void truths() {
        Due.says("TYPES: a NAME is a TRUTH, unless something else is put into it: all but 0, 1, what < = ! give, NAMES that are TRUTHS.");
        String[] truths = {"k0", "k1", "lalb<", "lalb=", "la!", "i!", "ii<", "ld", "le", "lc"};
        for (String text : truths) {
            Due.same("c=" + text, Due.coded(text + "scr").type(0, 2), 1);
        }
        String[] others = {"k2", "k10", "k999", "la", "lb", "i", "ldn", "k0n", "ldle+", "ldle-", "ldle*", "ldle/", "ldle%", "la!n", "k1k1*"};
        for (String text : others) {
            Due.same("c=" + text, Due.coded(text + "scr").type(0, 2), 0);
        }
        Due.text("one that isn't makes others so", types(Due.coded("ldsclesdlfseisfr"), 0, 6), "000000");
        Due.text("round about", types(Due.coded("ldsclesdlfselcsfr"), 0, 6), "001111");
        Due.text("all that is put into it counts", types(Due.coded("k1sck2sck1scr"), 0, 6), "000111");
        Due.text("what is told later, too", types(Due.coded("lcsdk5scr"), 0, 6), "000011");
        Due.says("(VARIABLES a, b begin with anything: no TRUTHS;");
        Due.text("never", types(Due.coded("k1sak0sbr"), 0, 6), "001111");
        Due.text("nor at once", types(Due.coded("r"), 0, 6), "001111");
        Due.text("x", types(Due.coded("la!dk2nd+o+oidpor"), 2, 3), "100");
    }

    private static void truthsOfT() {
        Due.says("T0 of a HANDLER's AT neither.)");
        Due.same("caught", Due.coded("k1torh0,2,2").type(1, 0), 0);
        Due.same("not caught", Due.coded("k1g2or").type(1, 0), 1);
        Due.text("T1 may be", types(Due.coded("k0k1g3+olalb/ororh3,10,10"), 1, 2), "01");
        Due.says("Tk is one NAME in all BLOCKS.");
        Due.text("one puts 1, one 2", types(Due.coded("laz4k1g5k2or"), 1, 1), "0");
        Due.text("one puts 1, one 0", types(Due.coded("laz4k1g5k0or"), 1, 1), "1");
        Due.text("put and taken elsewhere", types(Due.coded("k2g2pk1g5or"), 1, 1), "0");
        Due.text("T0 and T1 apart", types(Due.coded("k1k2g3oor"), 1, 2), "10");
        Due.text("T1 and T0 apart", types(Due.coded("k2k1g3oor"), 1, 2), "01");
        Due.text("an X that is one", types(Due.coded("la!dscsdr"), 0, 4), "0011");
        Due.text("an X that is none", types(Due.coded("idscsdr"), 0, 4), "0000");
        Due.text("T of an X", types(Due.coded("la!dog5pr"), 1, 1), "1");
        Due.text("an X that holds it", types(Due.coded("k1k2g3wg5oor"), 2, 1), "0");
        Due.says("7 NAMES that are TRUTHS (VARIABLES, T, X).");
        Due.same("c to f", Due.coded("r").most(7), 4);
        Due.same("and T0", Due.coded("k1g2or").most(7), 5);
        Due.same("but T0", Due.coded("k2g2or").most(7), 4);
        Due.same("and X0", Due.coded("la!d+or").most(7), 5);
        Due.same("X0, but not T0", Due.coded("la!dopk5g7or").most(7), 5);
        Due.text("T0, T1, T2, but not c", types(Due.coded("isck1k1k1g6pppr"), 1, 3), "111");
        Due.same("none", Due.coded("iscisdiseisfr").most(7), 0);
    }

    private static void live() {
        Due.says("LIVE at a BLOCK: a VARIABLE that may be loaded from there on ahead of being stored");
        Due.same("loaded", Due.coded("laor").block(0, 10), 1);
        Due.same("all six", Due.coded("lalblcldlelf+++++or").block(0, 10), 63);
        Due.same("f", Due.coded("lfor").block(0, 10), 32);
        Due.same("none", Due.coded("r").block(0, 10), 0);
        Due.same("stored first", Due.coded("k1salaor").block(0, 10), 0);
        Due.same("loaded first", Due.coded("lak1sapr").block(0, 10), 1);
        Due.same("loaded to be stored", Due.coded("lasar").block(0, 10), 1);
        Due.same("loaded later on", Due.coded("g1g2lbor").block(0, 10), 2);
        Due.same("stored in between", Due.coded("g1isbg4lbor").block(0, 10), 0);
        Due.same("on one of two ways", Due.coded("laz5isbrlbor").block(0, 10), 3);
        Due.same("round a loop", Due.coded("isalbz5g0r").block(0, 10), 2);
        Due.same("behind it both ways", Due.coded("laz5lborlcor").block(0, 11), 6);
        Due.same("behind it round the loop", Due.coded("lalbsaz0r").block(0, 11), 3);
        Due.same("behind the end", Due.coded("laor").block(0, 11), 0);
    }

    private static void liveInHandlers() {
        Due.says("(what a HANDLER needs is LIVE all through a BLOCK that can THROW to it)");
        CodeLifter lifter = Due.coded("k1sak2salblc/orplaorh0,9,9");
        Due.same("live at its begin", lifter.block(0, 10), 7);
        Due.text("no store is dead", Due.column(lifter, 'i', 5), "0,0,0,0,0,0,0,0,0,0,0,0,0");
        Due.same("if it can't throw", Due.coded("k1sak2salblc*orplaorh0,9,9").count(14), 2);
        Due.same("if none catches", Due.coded("k1sak2salblc/orplaor").count(14), 2);
        Due.same("behind what throws, too", Due.coded("lblc/ok1sarplaorh0,6,7").count(14), 0);
        Due.same("but not behind the block", Due.coded("lblc/ok1sarplaorh0,4,7").count(14), 1);
    }

    private static void dead() {
        Due.says("A store is DEAD, if its VARIABLE isn't LIVE behind it.");
        Due.text("never loaded", Due.column(Due.coded("k1sar"), 'i', 5), "0,1,0");
        Due.text("loaded", Due.column(Due.coded("k1salaor"), 'i', 5), "0,0,0,0,0");
        Due.text("stored again", Due.column(Due.coded("k1sak2salaor"), 'i', 5), "0,1,0,0,0,0,0");
        Due.text("loaded ahead alone", Due.column(Due.coded("lak1sapr"), 'i', 5), "0,0,1,0,0");
        Due.text("another one is loaded", Due.column(Due.coded("k1salbor"), 'i', 5), "0,1,0,0,0");
        Due.text("loaded in the next block", Due.column(Due.coded("k1sag3laor"), 'i', 5), "0,0,0,0,0,0");
        Due.text("loaded on one way", Due.column(Due.coded("k1salbz5rlaor"), 'i', 5), "0,0,0,0,0,0,0,0");
        Due.text("loaded round a loop", Due.column(Due.coded("lapk1sag0"), 'i', 5), "0,0,0,0,0");
        Due.text("f", Due.column(Due.coded("k1sfr"), 'i', 5), "0,1,0");
        Due.same("none", Due.coded("k1r").count(14), 0);
        Due.same("two", Due.coded("k1sak1sbr").count(14), 2);
        Due.same("the last of forty", Due.coded("k1p".repeat(18) + "ik1sar").instruction(38, 5), 1);
        Due.same("one", Due.coded("k1p".repeat(18) + "ik1sar").count(14), 1);
    }

    private static void statement() {
        Due.says("0 its kind (0 VARIABLE=, 1 T=, 2 X=, 3 OUT, 4 E alone, 5 THROW, 6 RETURN), 1 which VARIABLE, T, X (NONE), "
            + "2 how many signs its E has when SPELLED (0 without), 3 whether E has EFFECTS (1, 0), "
            + "4 how many EXPRESSIONS E is, all within it, too (0 without). HIDDEN: no such ones.");
        CodeLifter lifter = Due.coded("iidpsfn!ok999lalb+*olalb%pk1k2g21r");
        int[][] want = {{2, 0, 2, 1, 1}, {2, 1, 2, 1, 1}, {0, 5, 2, 0, 1}, {3, NONE, 4, 0, 3}, {3, NONE, 11, 0, 5}, {4, NONE, 5, 1, 3},
            {1, 0, 1, 0, 1}, {1, 1, 1, 0, 1}};
        Due.same("statements", lifter.block(0, 9), want.length);
        for (int i = 0; i < want.length; i++) {
            for (int what = 0; what < 5; what++) {
                Due.same("statement(0, " + i + ", " + what + ")", lifter.statement(0, i, what), want[i][what]);
            }
        }
        int[] end = {6, NONE, 0, 0, 0};
        int[] thrown = {5, NONE, 2, 1, 1};
        for (int what = 0; what < 5; what++) {
            Due.same("return, " + what, lifter.statement(1, 0, what), end[what]);
            Due.same("throw, " + what, Due.coded("it").statement(0, 0, what), thrown[what]);
        }
        Due.same("statement(0, 8, 0)", lifter.statement(0, 8, 0), HIDDEN);
        Due.same("statement(1, 1, 0)", lifter.statement(1, 1, 0), HIDDEN);
        Due.same("statement(2, 0, 0)", lifter.statement(2, 0, 0), HIDDEN);
        Due.same("statement(0, 0, 5)", lifter.statement(0, 0, 5), HIDDEN);
        Due.same("statement(1, 0, 5)", lifter.statement(1, 0, 5), HIDDEN);
        Due.same("a block without any", Due.coded("g1r").statement(0, 0, 0), HIDDEN);
        Due.same("no code", new CodeLifter().statement(0, 0, 0), HIDDEN);
        for (int bad : FAR_OFF) {
            Due.same("statement(" + bad + ", 0, 0)", lifter.statement(bad, 0, 0), HIDDEN);
            Due.same("statement(0, " + bad + ", 0)", lifter.statement(0, bad, 0), HIDDEN);
            Due.same("statement(0, 0, " + bad + ")", lifter.statement(0, 0, bad), HIDDEN);
        }
        Due.says("4 the most EXPRESSIONS that a STATEMENT's E is (as there)");
        Due.same("five", lifter.most(4), 5);
        Due.same("the first one's", Due.coded("lalb+or").most(4), 3);
        Due.same("none", Due.coded("r").most(4), 0);
        Due.same("not of z's", Due.coded("lalb+lc*z7rr").most(4), 0);
        Due.says("6 the BLOCK of most STATEMENTS (of several the lowest)");
        Due.same("the first", lifter.most(6), 0);
        Due.same("of two", Due.coded("k1og3k1og6r").most(6), 0);
        Due.same("the second", Due.coded("g1k1or").most(6), 1);
        Due.same("the third", Due.coded("k1og3k1ok1og8k1ok1or").most(6), 2);
    }

    private static void condition() {
        Due.says("The k-th sign of the EXPRESSION of a BLOCK's z as SPELLED (k NONE: how many). NONE: it has none, no such ones.");
        CodeLifter lifter = Due.coded("lalb<!z6rr");
        Due.same("how many", lifter.condition(0, NONE), 6);
        Due.same("the first", lifter.condition(0, 0), '!');
        Due.same("the last", lifter.condition(0, 5), ')');
        Due.same("condition(0, 6)", lifter.condition(0, 6), NONE);
        Due.same("condition(0, -2)", lifter.condition(0, -2), NONE);
        Due.same("the least", lifter.condition(0, Integer.MIN_VALUE), NONE);
        Due.same("the most", lifter.condition(0, Integer.MAX_VALUE), NONE);
        Due.same("one alone", Due.coded("laz3rr").condition(0, NONE), 1);
        for (int b = 1; b < 4; b++) {
            Due.same("none of " + b, lifter.condition(b, NONE), NONE);
            Due.same("none of " + b, lifter.condition(b, 0), NONE);
        }
        Due.same("of g", Due.coded("g0").condition(0, NONE), NONE);
        Due.same("no code", new CodeLifter().condition(0, NONE), NONE);
        for (int bad : FAR_OFF) {
            Due.same("condition(" + bad + ", NONE)", lifter.condition(bad, NONE), NONE);
            Due.same("condition(" + bad + ", 0)", lifter.condition(bad, 0), NONE);
        }
    }

    private static void type() {
        Due.says("Whether a NAME is a TRUTH: sort 0 a VARIABLE, 1 T, 2 X, its number. NONE: no such one (1, 0 else).");
        CodeLifter lifter = Due.coded("iidpok1g7+or");
        Due.same("T", lifter.count(11), 2);
        Due.same("X", lifter.count(10), 2);
        Due.text("variables", types(lifter, 0, 7), "001111-1");
        Due.text("T", types(lifter, 1, 3), "01-1");
        Due.text("X", types(lifter, 2, 3), "00-1");
        for (int sort : new int[] {-1, 3, 4, Integer.MIN_VALUE, Integer.MAX_VALUE}) {
            Due.same("type(" + sort + ", 0)", lifter.type(sort, 0), NONE);
        }
        for (int sort = 0; sort < 3; sort++) {
            Due.same("no code", new CodeLifter().type(sort, 0), NONE);
            for (int bad : FAR_OFF) {
                Due.same("type(" + sort + ", " + bad + ")", lifter.type(sort, bad), NONE);
            }
        }
        Due.same("no T", Due.coded("r").type(1, 0), NONE);
        Due.same("no X", Due.coded("r").type(2, 0), NONE);
        Due.same("the sixth T", Due.coded("k1".repeat(6) + "g7r").type(1, 5), 1);
        Due.same("a seventh T", Due.coded("k1".repeat(6) + "g7r").type(1, 6), NONE);
    }

    private static void unlike() {
        Due.says("13 unlike EXPRESSIONS that are no NAMES in all STATEMENTS and z's (with all within)");
        Due.same("none", Due.coded("r").count(13), 0);
        Due.same("a name", Due.coded("laor").count(13), 0);
        Due.same("a number", Due.coded("k1or").count(13), 1);
        Due.same("a number twice", Due.coded("k1ok1or").count(13), 1);
        Due.same("two numbers", Due.coded("k1ok2or").count(13), 2);
        Due.same("inputs", Due.coded("ioior").count(13), 1);
        Due.same("all within", Due.coded("lak1+nor").count(13), 3);
        Due.same("alike in two blocks", Due.coded("lak1+og5lak1+or").count(13), 2);
        Due.same("turned round", Due.coded("lalb+olbla+or").count(13), 2);
        Due.same("in z's", Due.coded("lalb<z5rr").count(13), 1);
        Due.same("not what is popped", Due.coded("k1pk2pr").count(13), 0);
    }
}
