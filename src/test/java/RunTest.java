/** Promises 18 and 19: run and output, of the code and of the lines. */
public final class RunTest {
    private static final int HIDDEN = Due.HIDDEN;
    private static final int LOWEST = Integer.MIN_VALUE;

    public static void main(String[] args) {
        countdown();
        arithmetic();
        inputs();
        thrown();
        caught();
        caughtBack();
        limits();
        outputsTold();
        variables();
        orderOfEffects();
        jumpsRun();
        runsLeaveNothing();
        refused();
        Due.close();
    }

    /** Asks for all that a run tells, of code and of lines. */
    private static void runs(CodeLifter lifter, int[] call, int... want) {
        for (int how = 0; how < 2; how++) {
            for (int what = 0; what < want.length; what++) {
                int got = lifter.run(how, call[0], call[1], call[2], call[3], what);
                Due.same("run how " + how + ", what " + what, got, want[what]);
            }
        }
    }

    private static void outputs(CodeLifter lifter, int[] call, int... want) {
        for (int how = 0; how < 2; how++) {
            for (int k = 0; k < want.length; k++) {
                int got = lifter.output(how, call[0], call[1], call[2], call[3], k);
                Due.same("output how " + how + ", " + k, got, want[k]);
            }
            int behind = lifter.output(how, call[0], call[1], call[2], call[3], want.length);
            Due.same("output behind the last", behind, HIDDEN);
            Due.same("output -1", lifter.output(how, call[0], call[1], call[2], call[3], -1), HIDDEN);
            Due.same("outputs", lifter.run(how, call[0], call[1], call[2], call[3], 0), want.length);
        }
    }

    private static void countdown() {
        CodeLifter lifter = Due.coded("k3sclcz11lcolck1-scg2r");
        int[] call = {8, 9, 0, 200};
        runs(lifter, call, 3, 0, 0, 0, 9, 8, 9, 0, 0, 0, 0, (3 * 31 + 2) * 31 + 1);
        outputs(lifter, call, 3, 2, 1);
    }

    private static void arithmetic() {
        gives("lalb+or", Integer.MAX_VALUE, 1, LOWEST);
        gives("lalb-or", LOWEST, 1, Integer.MAX_VALUE);
        gives("lalb*or", 65536, 65536, 0);
        gives("lalb*or", 123456789, 987654321, 123456789 * 987654321);
        gives("lalb/or", -7, 2, -3);
        gives("lalb/or", 7, -2, -3);
        gives("lalb/or", LOWEST, -1, LOWEST);
        gives("lalb%or", -7, 2, -1);
        gives("lalb%or", 7, -2, 1);
        gives("lalb%or", LOWEST, -1, 0);
        gives("lalb<or", 1, 2, 1);
        gives("lalb<or", 2, 2, 0);
        gives("lalb<or", LOWEST, 1, 1);
        gives("lalb=or", 5, 5, 1);
        gives("lalb=or", 5, 6, 0);
        gives("la!or", 0, 0, 1);
        gives("la!or", -3, 0, 0);
        gives("lanor", 5, 0, -5);
        gives("lanor", LOWEST, 0, LOWEST);
        gives("lalbw-or", 10, 3, -7);
        gives("lad*or", -4, 0, 16);
    }

    private static void gives(String text, int a, int b, int want) {
        outputs(Due.coded(text), new int[] {a, b, 0, 1}, want);
    }

    private static void inputs() {
        CodeLifter lifter = Due.coded("ioioioioioior");
        outputs(lifter, new int[] {0, 0, 0, 1}, 0, 3, 3, 2, 3, 2);
        outputs(lifter, new int[] {0, 0, 1, 1}, 3, 3, 3, 0, 1, 2);
        outputs(lifter, new int[] {0, 0, -1, 1}, 4, 4, 2, 3, 3, 1);
        outputs(lifter, new int[] {0, 0, 123456789, 1}, 1, 0, 4, 0, 1, 1);
        runs(lifter, new int[] {0, 0, 1, 1}, 6, 0, 0, 6, 1, 0, 0, 0, 0, 0, 0, 88747422);
        Due.same("none", Due.coded("r").run(1, 0, 0, 7, 1, 3), 0);
    }

    private static void thrown() {
        runs(Due.coded("k7t"), new int[] {0, 0, 0, 5}, 0, 1, 7, 0, 1);
        runs(Due.coded("lalb/or"), new int[] {3, 0, 0, 5}, 0, 1, 99, 0, 1);
        runs(Due.coded("lalb%or"), new int[] {3, 0, 0, 5}, 0, 1, 99, 0, 1);
        runs(Due.coded("lat"), new int[] {0, 0, 0, 5}, 0, 1, 0, 0, 1, 0);
        // The lower one throws ahead of the input.
        runs(Due.coded("lalb/i+or"), new int[] {3, 0, 1, 5}, 0, 1, 99, 0, 1);
        runs(Due.coded("ilalb/+or"), new int[] {3, 0, 1, 5}, 0, 1, 99, 1, 1);
    }

    private static void caught() {
        CodeLifter lifter = Due.coded("lalb/ororh0,4,5");
        outputs(lifter, new int[] {7, 2, 0, 9}, 3);
        outputs(lifter, new int[] {7, 0, 0, 9}, 99);
        runs(lifter, new int[] {7, 0, 0, 9}, 1, 0, 0, 0, 2, 7, 0);
        CodeLifter first = Due.coded("latorpk5orh0,2,4h0,2,2");
        outputs(first, new int[] {6, 0, 0, 9}, 5);
        CodeLifter outside = Due.coded("latorh1,2,2h0,2,2");
        outputs(outside, new int[] {6, 0, 0, 9}, 6);
        CodeLifter again = Due.coded("lattrh0,2,2");
        runs(again, new int[] {6, 0, 0, 9}, 0, 1, 6, 0, 2);
        CodeLifter stack = Due.coded("k1k2latorh0,4,4");
        outputs(stack, new int[] {6, 0, 0, 9}, 6);
    }

    private static void caughtBack() {
        CodeLifter lifter = Due.coded("k1olalb/orh2,5,1");
        outputs(lifter, new int[] {6, 0, 0, 5}, 1, 99);
        runs(lifter, new int[] {6, 0, 0, 5}, 2, 2, 0, 0, 5);
        outputs(lifter, new int[] {6, 3, 0, 5}, 1, 2);
    }

    private static void limits() {
        CodeLifter lifter = Due.coded("lak1+sag0");
        for (int blocks = 1; blocks <= 200; blocks += 199) {
            runs(lifter, new int[] {0, 0, 0, blocks}, 0, 2, 0, 0, blocks, blocks);
        }
        CodeLifter ends = Due.coded("k1og2k2or");
        runs(ends, new int[] {0, 0, 0, 1}, 1, 2, 0, 0, 1);
        CodeLifter enough = Due.coded("k1og3lbr");
        runs(enough, new int[] {0, 0, 0, 2}, 1, 0, 0, 0, 2);
        runs(Due.coded("laz2lbz4r"), new int[] {0, 0, 0, 2}, 0, 2, 0, 0, 2);
        runs(Due.coded("laz2lbz4r"), new int[] {0, 0, 0, 3}, 0, 0, 0, 0, 3);
        runs(Due.coded("k7t"), new int[] {0, 0, 0, 1}, 0, 1, 7, 0, 1);
    }

    private static void outputsTold() {
        CodeLifter lifter = Due.coded("laolbor");
        runs(lifter, new int[] {2147483647, 5, 0, 1}, 2, 0, 0, 0, 1, 2147483647, 5, 0, 0, 0, 0, 31 * 2147483647 + 5);
        Due.same("none is 0", Due.coded("r").run(0, 1, 1, 1, 1, 11), 0);
    }

    private static void variables() {
        CodeLifter lifter = Due.coded("k1sck2sdk3selfk4+sfr");
        runs(lifter, new int[] {-5, 77, 0, 1}, 0, 0, 0, 0, 1, -5, 77, 1, 2, 3, 4, 0);
        runs(Due.coded("lbsaisbr"), new int[] {-5, 77, 1, 1}, 0, 0, 0, 1, 1, 77, 3);
    }

    private static void orderOfEffects() {
        CodeLifter lifter = Due.coded("iiw-oik5ooior");
        runs(lifter, new int[] {0, 0, 1, 1}, 4, 0, 0, 4);
        outputs(lifter, new int[] {0, 0, -1, 1}, 0, 5, 2, 3);
        outputs(lifter, new int[] {0, 0, 123456789, 1}, -1, 5, 4, 0);
        CodeLifter kept = Due.coded("lak5saolaor");
        outputs(kept, new int[] {3, 0, 0, 1}, 3, 5);
        CodeLifter turned = Due.coded("k1k2g3wg5oor");
        outputs(turned, new int[] {0, 0, 0, 9}, 1, 2);
    }

    private static void jumpsRun() {
        CodeLifter lifter = Due.coded("laz5lbog5lbz8g2r");
        Due.same("a jump", lifter.count(6), 1);
        runs(lifter, new int[] {1, 4, 0, 8}, 3, 2, 0, 0, 8);
        runs(lifter, new int[] {1, 0, 0, 8}, 1, 0, 0, 0, 4);
        runs(lifter, new int[] {0, 0, 0, 8}, 0, 0, 0, 0, 3);
        runs(lifter, new int[] {0, 9, 0, 8}, 2, 2, 0, 0, 8);
    }

    private static void runsLeaveNothing() {
        CodeLifter lifter = Due.coded("iscisdlcld+oldolcor");
        int before = lifter.run(0, 1, 2, 3, 4, 11);
        lifter.run(1, 9, 9, 9, 9, 0);
        Due.same("the same again", lifter.run(0, 1, 2, 3, 4, 11), before);
        Due.same("lines too", lifter.run(1, 1, 2, 3, 4, 11), before);
    }

    private static void refused() {
        CodeLifter lifter = Due.coded("k1or");
        int[][] calls = {{-1, 1, 0}, {2, 1, 0}, {0, 0, 0}, {0, -1, 0}, {0, 201, 0}, {1, 0, 0}, {1, 201, 0}, {0, 1, -1}, {0, 1, 12},
            {1, 1, -1}, {1, 1, 12}, {Integer.MAX_VALUE, 1, 0}, {0, LOWEST, 0}, {0, 1, Integer.MAX_VALUE}};
        for (int[] call : calls) {
            String told = "run(" + call[0] + ", .., " + call[1] + ", " + call[2] + ")";
            Due.same(told, lifter.run(call[0], 0, 0, 0, call[1], call[2]), HIDDEN);
        }
        Due.same("output how 2", lifter.output(2, 0, 0, 0, 1, 0), HIDDEN);
        Due.same("output of no block", lifter.output(0, 0, 0, 0, 0, 0), HIDDEN);
        Due.same("output of 201", lifter.output(1, 0, 0, 0, 201, 0), HIDDEN);
        Due.same("output far off", lifter.output(1, 0, 0, 0, 1, Integer.MAX_VALUE), HIDDEN);
        Due.same("output far below", lifter.output(1, 0, 0, 0, 1, LOWEST), HIDDEN);
        Due.same("output", lifter.output(1, 0, 0, 0, 200, 0), 1);
    }
}
