/** Promises 1 to 6: a new object, feed, end, fault, code, put. */
public final class TapeTest {
    private static final int NONE = Due.NONE;
    private static final int HIDDEN = Due.HIDDEN;

    public static void main(String[] args) {
        newObject();
        feed();
        end();
        faults();
        faultLeavesAll();
        verdicts();
        code();
        codeRefused();
        put();
        putRefused();
        Due.close();
    }

    private static void newObject() {
        CodeLifter lifter = new CodeLifter();
        Due.same("NONE", CodeLifter.NONE, -1);
        Due.same("HIDDEN", CodeLifter.HIDDEN, -1000000);
        for (int what = -1; what <= 15; what++) {
            Due.same("new: count(" + what + ")", lifter.count(what), what == 12 ? 0 : HIDDEN);
            Due.same("new: most(" + what + ")", lifter.most(what), HIDDEN);
        }
        Due.same("new: code()", lifter.code(), NONE);
        Due.same("new: fault()", lifter.fault(), 0);
        Due.same("new: put", lifter.put(0, 'r', 0), NONE);
        Due.refuses("new: instruction", () -> lifter.instruction(0, 0));
        Due.refuses("new: block", () -> lifter.block(0, 0));
        Due.same("new: edge", lifter.edge(0, 0), HIDDEN);
        Due.fails("new: dominates", lifter.dominates(0, 0));
        Due.same("new: loop", lifter.loop(0), NONE);
        Due.same("new: statement", lifter.statement(0, 0, 0), HIDDEN);
        Due.same("new: condition", lifter.condition(0, -1), NONE);
        Due.same("new: line", lifter.line(0, 0), HIDDEN);
        Due.same("new: spell", lifter.spell(0, -1), NONE);
        Due.same("new: type", lifter.type(0, 0), NONE);
        Due.same("new: run", lifter.run(0, 0, 0, 0, 1, 0), HIDDEN);
        Due.same("new: output", lifter.output(0, 0, 0, 0, 1, 0), HIDDEN);
        Due.same("new: comesTo", lifter.comesTo(0), NONE);
        Due.same("new: far", lifter.far(0, 0), NONE);
    }

    private static void feed() {
        CodeLifter lifter = new CodeLifter();
        Due.same("feed nothing", lifter.feed(0, 0, 0, 0, 0), 0);
        Due.same("feed with gaps", lifter.feed(0x006B0039, 0, 0x6F000000, 0x00007200, 0), 4);
        Due.same("the highest byte comes first", lifter.code(), 1);
        Due.same("k9 o r", lifter.instruction(0, 1), 9);
        int twenty = 0x20202020;
        for (int k = 1; k <= 12; k++) {
            Due.same("feed of blanks", lifter.feed(twenty, twenty, twenty, twenty, twenty), 20 * k);
        }
        Due.same("the 241st byte", lifter.feed(0, 0, 0, 0, 1), NONE);
        Due.same("nothing more is taken", lifter.count(12), 240);
        Due.same("zeros may come yet", lifter.feed(0, 0, 0, 0, 0), 240);
        Due.holds("end(239)", lifter.end(239));
        Due.same("two more are too many", lifter.feed(0, 0, 0x00720072, 0, 0), NONE);
        Due.same("none of the two is taken", lifter.count(12), 239);
        Due.same("one more isn't", lifter.feed(0, 0, 0, 0, 0x72000000), 240);
        Due.same("239 blanks and r", lifter.code(), 1);
        Due.same("bytes above 127 count", lifter.feed(0xFFFFFFFF, 0x80808080, 0, 0, 0), 8);
        Due.same("they are faults", lifter.fault(), 0);
    }

    private static void end() {
        CodeLifter lifter = Due.fed("k1or");
        Due.fails("end(-1)", lifter.end(-1));
        Due.fails("end(5)", lifter.end(5));
        Due.same("nothing changed", lifter.count(12), 4);
        Due.holds("end(4)", lifter.end(4));
        Due.holds("end(3)", lifter.end(3));
        Due.same("three left", lifter.count(12), 3);
        Due.same("bytes come behind these", Due.feed(lifter, "pk2r"), 7);
        Due.same("k1op is -4", lifter.code(), -4);
        Due.holds("end(0)", lifter.end(0));
        Due.fails("end(1) of an empty one", lifter.end(1));
        Due.same("empty", lifter.fault(), 0);
        Due.fails("end of the least int", lifter.end(Integer.MIN_VALUE));
    }

    private static void faults() {
        fault("", 0);
        fault("   ", 3);
        fault("r", NONE);
        fault("  r  ", NONE);
        fault("x", 0);
        fault("R", 0);
        fault("k", 1);
        fault("k ", 2);
        fault("k999r", NONE);
        fault("k1000r", 4);
        fault("k12 3", 4);
        fault("k0009r", NONE);
        fault("k-1", 1);
        fault("l", 1);
        fault("lg", 1);
        fault("l a s\nb", 5);
        fault("l a s f", NONE);
        fault("sA", 1);
        fault("g39", NONE);
        fault("g40", 2);
        fault("g390", 3);
        fault("z39z40", 5);
        fault("z", 1);
        fault("+-*/%<=!ndpwiotr", NONE);
        fault("rh0,1,0", NONE);
        fault("r h 0 , 1 , 0 ", NONE);
        fault("rh0,1,0r", 7);
        fault("rh0,1,0 h40,40,40h0,0,0", NONE);
        fault("rh0,1,0h0,1,0h0,1,0", NONE);
        fault("rh0,1,0h0,1,0h0,1,0 h", 20);
        fault("rh41,1,0", 3);
        fault("rh0,41,0", 5);
        fault("rh0,1,41", 7);
        fault("rh0,1", 5);
        fault("rh0,1,", 6);
        fault("rh,", 2);
        fault("rh0.1", 3);
        fault("rh0 1", 4);
        fault("h0,1,0", 0);
        fault(" h0,1,0", 1);
        fault("r".repeat(40), NONE);
        fault("r".repeat(40) + "  r", 42);
        fault("r".repeat(40) + "h0,40,39", NONE);
        fault("r".repeat(40) + "k", 40);
        fault("r,", 1);
        fault("r0", 1);
        fault("r\u00e9", 1);
    }

    private static void fault(String text, int want) {
        CodeLifter lifter = Due.fed(text);
        Due.same("fault of " + text, lifter.fault(), want);
        Due.same("fault again of " + text, lifter.fault(), want);
        Due.same("the tape stays", lifter.count(12), text.length());
        if (want != NONE) {
            Due.same("code of " + text, lifter.code(), NONE);
            Due.same("the tape stays still", lifter.count(12), text.length());
        }
    }

    private static void faultLeavesAll() {
        CodeLifter lifter = Due.coded("k3sclcz11lcolck1-scg2r");
        String before = Due.counts(lifter);
        Due.feed(lifter, "k1x");
        Due.same("fault of k1x", lifter.fault(), 2);
        Due.same("code of k1x", lifter.code(), NONE);
        lifter.end(0);
        Due.feed(lifter, "o");
        Due.same("code of o", lifter.code(), -4);
        Due.same("the tape stays", lifter.count(12), 1);
        lifter.end(0);
        Due.text("the code stays", Due.counts(lifter), before);
        Due.same("its lines too", lifter.spell(0, 0), 'B');
    }

    private static void verdicts() {
        verdict("g1", -2);
        verdict("rz2", -2);
        verdict("og9", -2);
        verdict("rh1,1,0", -2);
        verdict("rh1,0,0", -2);
        verdict("rh0,2,0", -2);
        verdict("rh0,1,1", -2);
        verdict("k1trh0,2,2", 2);
        verdict("k1", -3);
        verdict("z1", -2);
        verdict("k1z0", -3);
        verdict("g0", 1);
        verdict("o", -4);
        verdict("k1+", -4);
        verdict("k1w", -4);
        verdict("d", -4);
        verdict("p", -4);
        verdict("n", -4);
        verdict("!", -4);
        verdict("sa", -4);
        verdict("z0", -4);
        verdict("t", -4);
        verdict("k1k1k1k1k1k1r", 1);
        verdict("k1k1k1k1k1k1k1r", -5);
        verdict("k1k1k1k1k1k1dr", -5);
        verdict("k1k1k1k1k1k1wr", 1);
        verdict("k1g0", -6);
        verdict("k1z3k1r", -6);
        verdict("la lb/or h0,3,4", -6);
        verdict("lalb/o r o rh0,4,5", 3);
        verdict("k1k1tro rh0,3,4", 2);
        verdict("k1o", -3);
        // The lowest comes first: the 2 that lacks something ahead of the 5 that is too deep.
        verdict("laz4og0k1k1k1k1k1k1k1r", -4);
        // What isn't come to is not looked at, but for where it leads.
        verdict("ro", 1);
        verdict("rk1", 1);
        verdict("r g9", -2);
    }

    private static void verdict(String text, int want) {
        CodeLifter lifter = Due.fed(text);
        Due.same("fault of " + text, lifter.fault(), NONE);
        Due.same("code of " + text, lifter.code(), want);
        Due.same("tape of " + text, lifter.count(12), want > 0 ? 0 : text.length());
        Due.same("instructions of " + text, lifter.count(0) == HIDDEN ? 1 : 0, want > 0 ? 0 : 1);
    }

    private static void code() {
        CodeLifter lifter = Due.fed("k3sclcz11lcolck1-scg2r");
        Due.same("code()", lifter.code(), 4);
        Due.same("the tape is empty", lifter.count(12), 0);
        Due.same("an empty tape is no code", lifter.code(), NONE);
        Due.same("blocks stay", lifter.count(1), 4);
        Due.feed(lifter, "k7t");
        Due.same("another code", lifter.code(), 1);
        Due.same("its instructions", lifter.count(0), 2);
        Due.same("its statements", lifter.count(9), 1);
    }

    private static void codeRefused() {
        CodeLifter lifter = Due.coded("k7t");
        Due.feed(lifter, "k1g0");
        Due.same("-6", lifter.code(), -6);
        Due.same("the code stays", lifter.instruction(0, 1), 7);
        Due.same("the depth stays", lifter.instruction(1, 2), 1);
        Due.same("the tape stays", lifter.count(12), 4);
        lifter.end(2);
        Due.feed(lifter, "r");
        Due.same("k1r", lifter.code(), 1);
        Due.same("k1r is the code", lifter.instruction(1, 0), 'r');
    }

    private static void put() {
        CodeLifter lifter = Due.coded("k3sclcz11lcolck1-scg2r");
        Due.feed(lifter, "xyz");
        Due.same("another number", lifter.put(0, 'k', 999), 4);
        Due.same("it stands", lifter.instruction(0, 1), 999);
        Due.same("the tape stays", lifter.count(12), 3);
        Due.same("p for o", lifter.put(5, 'p', 0), 4);
        Due.same("a statement less", lifter.count(9), 3);
        Due.same("z to the next", lifter.put(3, 'z', 4), 3);
        Due.same("11 isn't come to", lifter.instruction(11, 2), NONE);
        Due.same("r for g", lifter.put(10, 'r', 0), 2);
        Due.same("f for c", lifter.put(1, 's', 5), 2);
        Due.same("its number", lifter.instruction(1, 1), 5);
        Due.same("what isn't come to may be anything", lifter.put(11, 'o', 0), 2);
        Due.same("k 0", lifter.put(0, 'k', 0), 2);
        Due.same("s a", lifter.put(1, 's', 0), 2);
        Due.same("l a", lifter.put(2, 'l', 0), 2);
        Due.same("g 0", lifter.put(10, 'g', 0), 2);
        Due.same("one comes back to 0", lifter.loop(0), 3);
        Due.same("z 0", lifter.put(3, 'z', 0), 2);
        Due.same("g 39", lifter.put(11, 'g', 39), -2);
    }

    private static void putRefused() {
        CodeLifter lifter = Due.coded("k3sclcz11lcolck1-scg2r");
        int[][] none = {{-1, 'r', 0}, {12, 'r', 0}, {0, 'h', 0}, {0, 'x', 0}, {0, 0, 0}, {0, -1, 0}, {0, 'k' + 256, 1},
            {0, 'k', -1}, {0, 'k', 1000}, {2, 'l', 6}, {2, 'l', -1}, {1, 's', 6}, {1, 's', -1}, {10, 'g', 40}, {10, 'g', -1},
            {3, 'z', 40}, {3, 'z', -1}, {5, 'o', 1}, {5, 'p', -1}, {11, 'r', 7}, {Integer.MAX_VALUE, 'r', 0}, {8, '+', 1}};
        String before = Due.column(lifter, 'i', 0) + Due.column(lifter, 'i', 1) + Due.told(lifter);
        for (int[] call : none) {
            Due.same("put(" + call[0] + ", " + call[1] + ", " + call[2] + ")", lifter.put(call[0], call[1], call[2]), NONE);
        }
        Due.same("-2", lifter.put(10, 'g', 12), -2);
        Due.same("-3", lifter.put(11, 'i', 0), -3);
        Due.same("-4", lifter.put(11, 'o', 0), -4);
        Due.same("-6", lifter.put(5, 'd', 0), -6);
        CodeLifter deep = Due.coded("k1k1k1k1k1k1wr");
        Due.same("-5", deep.put(6, 'd', 0), -5);
        Due.same("nothing changes", deep.instruction(6, 0), 'w');
        Due.text("nothing changes", Due.column(lifter, 'i', 0) + Due.column(lifter, 'i', 1) + Due.told(lifter), before);
        Due.same("it still works", lifter.put(0, 'k', 2), 4);
    }
}
