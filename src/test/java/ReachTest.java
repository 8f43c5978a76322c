/** Promises 20 and 21: comesTo, far; by all edges. */
public final class ReachTest {
    private static final int NONE = Due.NONE;

    public static void main(String[] args) {
        comesTo();
        far();
        byAllEdges();
        refused();
        Due.close();
    }

    private static void comesTo() {
        CodeLifter lifter = Due.coded("k3sclcz11lcolck1-scg2r");
        long[] want = {0, 7, 7, 7};
        for (int b = 0; b < want.length; b++) {
            Due.same("comesTo(" + b + ")", lifter.comesTo(b), want[b]);
        }
        Due.same("by a handler's edge", Due.coded("lalb/ororh0,4,5").comesTo(2), 1);
        Due.same("to itself", Due.coded("g0").comesTo(0), 1);
        Due.same("not to itself", Due.coded("r").comesTo(0), 0);
        CodeLifter chain = Due.coded("g1g2g3g4g5g6g7g8g9g10g11g12g13g14g15g16g17g18g19g20g21g22g23g24g25g26g27g28g29g30g31g32g33"
            + "g34g35g36g37g38g39g0");
        Due.same("forty blocks", chain.count(1), 40);
        Due.same("all of them", chain.comesTo(39), (1L << 40) - 1);
        Due.same("all of them are a loop", chain.loop(0), (1L << 40) - 1);
        Due.same("far round", chain.far(1, 0), 39);
        Due.same("the last dominates itself alone", chain.dominates(39, 38) ? 1 : 0, 0);
        Due.same("its lines", chain.count(8), 43);
        Due.same("it runs", chain.run(1, 0, 0, 0, 200, 4), 200);
    }

    private static void far() {
        CodeLifter lifter = Due.coded("k3sclcz11lcolck1-scg2r");
        int[][] want = {{0, 1, 2, 2}, {NONE, 0, 1, 1}, {NONE, 1, 0, 2}, {NONE, NONE, NONE, 0}};
        for (int b = 0; b < 4; b++) {
            for (int c = 0; c < 4; c++) {
                Due.same("far(" + b + ", " + c + ")", lifter.far(b, c), want[b][c]);
            }
        }
    }

    private static void byAllEdges() {
        CodeLifter lifter = Due.coded("laz5lbog5lbz8g2r");
        Due.same("over the jump", lifter.far(0, 1), 1);
        Due.same("over the jump too", lifter.comesTo(1), 15);
        CodeLifter tangled = Due.coded("laz4lbz6lbz2laz10lbz12lbz8laz16lbz18lbz14r");
        Due.same("tangled", tangled.count(6), NONE);
        Due.same("all but the last", tangled.comesTo(9), 511);
        Due.same("far", tangled.far(0, 9), 6);
    }

    private static void refused() {
        CodeLifter lifter = Due.coded("laz4k1or");
        Due.same("blocks", lifter.count(1), 3);
        for (int bad : new int[] {-1, 3, 64, Integer.MIN_VALUE, Integer.MAX_VALUE}) {
            Due.same("comesTo(" + bad + ")", lifter.comesTo(bad), NONE);
            Due.same("far(" + bad + ", 0)", lifter.far(bad, 0), NONE);
            Due.same("far(0, " + bad + ")", lifter.far(0, bad), NONE);
            Due.same("far to itself", lifter.far(bad, bad), NONE);
        }
    }
}
