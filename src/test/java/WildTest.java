import java.util.NoSuchElementException;

/**
 * Promises 1 to 22: calls with any arguments, on objects in any state, answer; what there is none of is refused as the
 * document says, what there is isn't; and nothing but NoSuchElementException ever comes out, from those that name it.
 */
public final class WildTest {
    private static final int NONE = Due.NONE;
    private static final int HIDDEN = Due.HIDDEN;
    private static final int CALLS = 80;
    private static final int[] ODD = {HIDDEN, Integer.MIN_VALUE, Integer.MAX_VALUE, -65, -64, -2, -1, 12, 13, 14, 15, 38, 39, 40, 41,
        63, 64, 65, 199, 200, 201, 239, 240, 241, 255, 256, 512, 999, 1000, 65536};
    private static final String SIGNS = "klsgz+-*/%<=!ndpwiotr";
    private static int seed = 77;
    private static CodeLifter lifter;
    /** How many there are, 0 without code. */
    private static int instructions;
    private static int blocks;
    private static int edges;
    private static int lines;
    private static int taken = 0;
    private static int thrown = 0;

    private WildTest() {
    }

    public static void main(String[] args) {
        for (int object = 0; object < 1500; object++) {
            lifter = new CodeLifter();
            count();
            for (int call = 0; call < CALLS; call++) {
                if (draw(30) == 0) {
                    changeTape();
                } else if (draw(20) == 0) {
                    lifter.put(any(), draw(4) == 0 ? any() : SIGNS.charAt(draw(SIGNS.length())), any());
                    count();
                } else {
                    ask(draw(15));
                }
            }
        }
        Due.holds("many were taken as code: " + taken, taken > 500);
        Due.holds("some asked for none: " + thrown, thrown > 500);
        Due.close();
    }

    private static int draw(int bound) {
        seed = seed * 1103515245 + 12345;
        return (seed >>> 8) % bound;
    }

    private static int any() {
        return draw(4) == 0 ? ODD[draw(ODD.length)] : draw(13);
    }

    private static boolean isIn(int number, int from, int to) {
        return from <= number && number < to;
    }

    private static void changeTape() {
        if (draw(4) == 0) {
            lifter.feed(draw(1 << 20), any(), any() << 24, any(), any());
            lifter.end(any());
        } else {
            lifter.end(0);
            Due.feed(lifter, text());
        }
        int fault = lifter.fault();
        int length = lifter.count(12);
        Due.holds("the fault is in the tape, or behind it", fault == NONE || isIn(fault, 0, length + 1));
        int verdict = lifter.code();
        Due.holds("a fault, or why not, or blocks", fault == NONE ? verdict > 0 || isIn(verdict, -6, -1) : verdict == NONE);
        Due.same("bytes then", lifter.count(12), verdict > 0 ? 0 : length);
        taken += verdict > 0 ? 1 : 0;
        count();
    }

    private static void count() {
        instructions = Math.max(0, lifter.count(0));
        blocks = Math.max(0, lifter.count(1));
        edges = Math.max(0, lifter.count(2));
        lines = Math.max(0, lifter.count(8));
    }

    /** Pushes are drawn more often than what pops, so that some of it is right. */
    private static String text() {
        StringBuilder text = new StringBuilder();
        int size = 1 + draw(draw(2) == 0 ? 8 : 41);
        for (int i = 0; i < size; i++) {
            char sign = draw(2) == 0 ? "klii".charAt(draw(4)) : SIGNS.charAt(draw(SIGNS.length()));
            text.append(i + 1 == size ? 'r' : sign);
            if (i + 1 < size && "kgz".indexOf(sign) >= 0) {
                text.append(draw(size));
            } else if (i + 1 < size && "ls".indexOf(sign) >= 0) {
                text.append((char) ('a' + draw(6)));
            }
        }
        for (int h = draw(4); h > 0; h--) {
            int from = draw(size);
            text.append('h').append(from).append(',').append(from + 1 + draw(size - from)).append(',').append(draw(size));
        }
        return text.toString();
    }

    private static void ask(int kind) {
        int x = any();
        int y = any();
        int z = any();
        String told = kind + " of " + x + ", " + y + ", " + z;
        switch (kind) {
            case 0: refused(told, lifter.count(x), HIDDEN, x == 12 || blocks > 0 && isIn(x, 0, 15)); break;
            case 1: thrown(told, () -> lifter.instruction(x, y), isIn(x, 0, instructions) && isIn(y, 0, 6)); break;
            case 2: thrown(told, () -> lifter.block(x, y), isIn(x, 0, blocks) && isIn(y, 0, 13)); break;
            case 3: refused(told, lifter.edge(x, y), HIDDEN, isIn(x, 0, edges) && isIn(y, 0, 5)); break;
            case 4: Due.holds(told, !lifter.dominates(x, y) || isIn(x, 0, blocks) && isIn(y, 0, blocks)); break;
            case 5: refused(told, lifter.loop(x), NONE, isIn(x, 0, blocks) && lifter.block(x, 8) == 1); break;
            case 6: refused(told, lifter.statement(x, y, z), HIDDEN, isStatement(x, y) && isIn(z, 0, 5)); break;
            case 7: refused(told, lifter.condition(x, y), NONE, y == NONE ? chooses(x) : isIn(y, 0, lifter.condition(x, NONE))); break;
            case 8: refused(told, lifter.line(x, y), HIDDEN, isIn(x, 0, lines) && isIn(y, 0, 3)); break;
            case 9: refused(told, lifter.spell(x, y), NONE, isIn(x, 0, lines) && (y == NONE || isIn(y, 0, lifter.spell(x, NONE)))); break;
            case 10: refused(told, lifter.type(x, y), NONE, blocks > 0 && isIn(x, 0, 3) && isIn(y, 0, names(x))); break;
            case 11: run(told, x, y, z); break;
            case 12: refused(told, lifter.comesTo(x), NONE, isIn(x, 0, blocks)); break;
            case 13: refused(told, lifter.far(x, y), NONE, isIn(x, 0, blocks) && isIn(y, 0, blocks) && comes(x, y)); break;
            default: refused(told, lifter.most(x), HIDDEN, blocks > 0 && isIn(x, 0, 8));
        }
    }

    private static void refused(String told, long got, long refusal, boolean isThere) {
        Due.holds(told + " answered " + got, isThere == (got != refusal));
    }

    private static void thrown(String told, Runnable asked, boolean isThere) {
        boolean isThrown = false;
        try {
            asked.run();
        } catch (NoSuchElementException e) {
            isThrown = true;
            thrown++;
        }
        Due.holds(told + " threw: " + isThrown, isThere != isThrown);
    }

    private static boolean isStatement(int block, int i) {
        return isIn(block, 0, blocks) && isIn(i, 0, lifter.block(block, 9));
    }

    private static boolean chooses(int block) {
        return isIn(block, 0, blocks) && lifter.instruction(lifter.block(block, 1), 0) == 'z' && ways(block) > 1;
    }

    /** How many ways a block's z goes, its handler's left out. */
    private static int ways(int block) {
        int z = lifter.block(block, 1);
        return lifter.instruction(z, 1) == z + 1 ? 1 : 2;
    }

    private static int names(int sort) {
        return sort == 0 ? 6 : sort == 1 ? lifter.count(11) : lifter.count(10);
    }

    private static boolean comes(int block, int other) {
        return block == other || (lifter.comesTo(other) >> block & 1) != 0;
    }

    private static void run(String told, int how, int limit, int what) {
        int a = any();
        int b = any();
        int k = any();
        int inputs = seed;
        boolean canRun = blocks > 0 && isIn(limit, 1, 201) && (how == 0 || how == 1 && lifter.count(6) != NONE);
        int got = lifter.run(how, a, b, inputs, limit, what);
        int outputs = lifter.run(how, a, b, inputs, limit, 0);
        int output = lifter.output(how, a, b, inputs, limit, k);
        Due.holds(told + ": outputs " + outputs, canRun ? outputs >= 0 : outputs == HIDDEN);
        if (!canRun || !isIn(what, 0, 12)) {
            Due.same(told, got, HIDDEN);
        }
        if (!canRun || !isIn(k, 0, outputs)) {
            Due.same("output " + k + " of " + outputs, output, HIDDEN);
        }
        if (canRun && lifter.count(6) != NONE) {
            Due.same(told + ", the other way", lifter.run(1 - how, a, b, inputs, limit, what), got);
            Due.same("output " + k + ", the other way", lifter.output(1 - how, a, b, inputs, limit, k), output);
        }
    }
}
