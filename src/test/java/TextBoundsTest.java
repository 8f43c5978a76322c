/** Part 1 of the terms, promises 1 to 6: each sentence that names a bound, at the bound and just outside of it. */
public final class TextBoundsTest {
    private static final int NONE = Due.NONE;
    private static final int LEAST = Integer.MIN_VALUE;
    private static final int MOST = Integer.MAX_VALUE;
    /** Instruction 2 throws if b is 0; 5 and 6 tell what was thrown. */
    private static final String DIVIDES = "lalb/or" + "or";

    private TextBoundsTest() {
    }

    public static void main(String[] args) {
        instructions();
        handlers();
        numbers();
        letters();
        goals();
        handlerNumbers();
        blanks();
        faultsTooEarly();
        faultsTooMuch();
        otherBytes();
        binary();
        unary();
        others();
        byZero();
        goRound();
        caughtFromTo();
        firstHandler();
        stackWhenCaught();
        noHandler();
        Due.close();
    }

    private static void instructions() {
        Due.says("CODE is a TEXT: 1 to 40 INSTRUCTIONS one behind the other, numbered from 0 on");
        Due.fault("", 0);
        Due.fault("h0,1,0", 0);
        Due.verdict("r", 1);
        Due.fault("r".repeat(39), NONE);
        Due.fault("r".repeat(40), NONE);
        Due.fault("r".repeat(41), 40);
        CodeLifter lifter = Due.coded("k1p".repeat(19) + "k7r");
        Due.same("count(0)", lifter.count(0), 40);
        Due.same("the first", lifter.instruction(0, 0), 'k');
        Due.same("the 39th", lifter.instruction(38, 1), 7);
        Due.same("the last", lifter.instruction(39, 0), 'r');
        Due.refuses("instruction(40, 0)", () -> lifter.instruction(40, 0));
        Due.refuses("instruction(-1, 0)", () -> lifter.instruction(-1, 0));
        Due.same("one alone", Due.coded("r").count(0), 1);
    }

    private static void handlers() {
        Due.says("then none to 3 HANDLERS: h FROM , TO , AT.");
        String one = "h0,1,0";
        for (int many = 0; many <= 3; many++) {
            Due.same("handlers", Due.coded("r" + one.repeat(many)).count(3), many);
        }
        Due.fault("r" + one.repeat(4), 19);
        Due.fault("r" + one + "r", 7);
        Due.fault(one + "r", 0);
    }

    private static void numbers() {
        Due.says("An INSTRUCTION: k and a NUMBER (0 .. 999; it is pushed)");
        Due.fault("k0", NONE);
        Due.fault("k999", NONE);
        Due.fault("k1000", 4);
        Due.fault("k-1", 1);
        Due.outputs(Due.coded("k0ok999or"), new int[] {5, 5, 5, 1}, 0, 999);
    }

    private static void letters() {
        Due.says("l and a letter a .. f (the VARIABLE's value is pushed), s and a letter (it is popped into the VARIABLE)");
        for (String sign : new String[] {"l", "s"}) {
            Due.fault(sign + "`", 1);
            for (char letter = 'a'; letter <= 'f'; letter++) {
                Due.fault(sign + letter, NONE);
            }
            Due.fault(sign + "g", 1);
            Due.fault(sign + "A", 1);
        }
        CodeLifter lifter = Due.coded("laolfok8salaok9sflfor");
        Due.outputs(lifter, new int[] {5, 6, 0, 1}, 5, 0, 8, 9);
        Due.same("a", lifter.instruction(0, 1), 0);
        Due.same("f", lifter.instruction(2, 1), 5);
    }

    private static void goals() {
        Due.says("g and a NUMBER (0 .. 39: on there), z and a NUMBER (popped: on there, if it is 0)");
        for (String sign : new String[] {"g", "z"}) {
            Due.fault(sign + "0", NONE);
            Due.fault(sign + "39", NONE);
            Due.fault(sign + "40", 2);
            Due.fault(sign + "100", 3);
            Due.fault(sign + "-1", 1);
        }
        CodeLifter to39 = Due.coded("g39" + "r".repeat(38) + "g0");
        Due.same("to 39 and back to 0", to39.loop(0), 3);
        CodeLifter lifter = Due.coded("laz4k1ok2or");
        Due.outputs(lifter, new int[] {0, 0, 0, 9}, 2);
        Due.outputs(lifter, new int[] {1, 0, 0, 9}, 1, 2);
        Due.outputs(lifter, new int[] {-1, 0, 0, 9}, 1, 2);
        Due.outputs(lifter, new int[] {LEAST, 0, 0, 9}, 1, 2);
    }

    private static void handlerNumbers() {
        Due.says("FROM, TO, AT: NUMBERS 0 .. 40.");
        Due.fault("rh0,0,0", NONE);
        Due.fault("rh40,40,40", NONE);
        Due.fault("rh41,40,40", 3);
        Due.fault("rh40,41,40", 6);
        Due.fault("rh40,40,41", 9);
        Due.fault("rh-1,1,0", 2);
    }

    private static void blanks() {
        Due.says("Blanks (32) may stand between all these, not within a NUMBER.");
        Due.fault("  k  1  o  l  a  s  f  g  0  z  9  r  h  0  ,  1  ,  2  h  3  ,  4  ,  5  ", NONE);
        Due.fault("k1 2", 3);
        Due.fault("g1 0r", 3);
        Due.fault("z1 0r", 3);
        Due.fault("rh1 0,20,0", 4);
        Due.fault("rh0,1 0,0", 6);
        Due.fault("rh0,1,0 0", 8);
        for (char near : new char[] {9, 10, 13, 31, 34, 160, 255}) {
            Due.fault("k1" + near + "r", 2);
            Due.fault("k" + near + "1r", 1);
            Due.fault("l" + near + "a", 1);
        }
    }

    private static void faultsTooEarly() {
        Due.says("FAULT: the first byte at which no such TEXT can go on (the length, if it ends too early)");
        String[] tooEarly = {"", " ", "k", "k ", "l", "s", "g", "z", "rk", "rh", "rh ", "rh0", "rh0 ", "rh0,", "rh0,1", "rh0,1,", "rh0,1, ",
            "rh0,1,0h", "r".repeat(40) + "h", " ".repeat(240)};
        for (String text : tooEarly) {
            Due.fault(text, text.length());
        }
        Due.fault(" ".repeat(239) + "r", NONE);
        Due.fault(" ".repeat(239) + "k", 240);
        Due.fault(" ".repeat(239) + "x", 239);
    }

    private static void faultsTooMuch() {
        Due.says("a 41st INSTRUCTION, a fourth HANDLER at its sign; a digit by which a NUMBER is too much");
        Due.fault("k1".repeat(40) + "k1", 80);
        Due.fault("k1".repeat(40) + " k1", 81);
        Due.fault("k1".repeat(40) + "x", 80);
        Due.fault("rh0,1,0h0,1,0h0,1,0h", 19);
        Due.fault("rh0,1,0h0,1,0h0,1,0 h0,1,0", 20);
        Due.fault("k9990", 4);
        Due.fault("k12345678901234567890", 4);
        Due.fault("g390", 3);
        Due.fault("g4", NONE);
        Due.fault("g41", 2);
        Due.fault("z50", 2);
        Due.fault("rh0,400,0", 6);
        Due.fault("rh99,1,0", 3);
        // A zero ahead makes no NUMBER too much.
        Due.fault("k0999", NONE);
        Due.fault("k01000", 5);
        Due.fault("g0039", NONE);
        Due.fault("g0040", 4);
        Due.fault("rh0040,041,0", 9);
    }

    private static void otherBytes() {
        Due.says("any other byte.");
        String signs = "klsgz+-*/%<=!ndpwiotr";
        for (int sign = 1; sign < 256; sign++) {
            if (sign != ' ' && signs.indexOf(sign) < 0) {
                Due.fault("" + (char) sign, 0);
                Due.fault("i " + (char) sign, sign == 'h' ? 3 : 2);
            }
            if (sign != ' ' && (sign < '0' || sign > '9')) {
                Due.fault("k" + (char) sign, 1);
                Due.fault("rh" + (char) sign, 2);
            }
            if (sign != ' ' && sign != ',' && (sign < '0' || sign > '9')) {
                Due.fault("rh0" + (char) sign, 3);
                Due.fault("rh0,1" + (char) sign, 5);
            }
            if (sign != ' ' && sign != 'h' && (sign < '0' || sign > '9')) {
                Due.fault("rh0,1,0" + (char) sign, 7);
            }
        }
    }

    private static void gives(String text, int a, int b, int want) {
        Due.outputs(Due.coded(text), new int[] {a, b, 0, 1}, want);
    }

    private static void binary() {
        Due.says("one of + - * / % < = (two are popped, the result of the lower by the upper one pushed; < = give 1 or 0)");
        gives("k9lalb+-or", 2, 3, 4);
        gives("lalb-or", 2, 3, -1);
        gives("lalb*or", 2, 3, 6);
        gives("lalb/or", 6, 3, 2);
        gives("lalb/or", 3, 6, 0);
        gives("lalb%or", 3, 6, 3);
        gives("lalb%or", 6, 3, 0);
        gives("lalb<or", 2, 3, 1);
        gives("lalb<or", 3, 3, 0);
        gives("lalb<or", 4, 3, 0);
        gives("lalb<or", LEAST, MOST, 1);
        gives("lalb<or", MOST, LEAST, 0);
        gives("lalb=or", 2, 3, 0);
        gives("lalb=or", 3, 3, 1);
        gives("lalb=or", 4, 3, 0);
    }

    private static void unary() {
        Due.says("! (1 for 0, else 0), n (turned about)");
        gives("la!or", 0, 0, 1);
        gives("la!or", 1, 0, 0);
        gives("la!or", -1, 0, 0);
        gives("la!or", LEAST, 0, 0);
        gives("lanor", 7, 0, -7);
        gives("lanor", 0, 0, 0);
        gives("lanor", MOST, 0, -MOST);
    }

    private static void others() {
        Due.says("d (the top once more), p (popped), w (both upper ones change places), i (an INPUT is pushed), o (popped: an OUTPUT)");
        Due.outputs(Due.coded("k1ladooor"), new int[] {7, 0, 0, 1}, 7, 7, 1);
        Due.outputs(Due.coded("k1k2lapoor"), new int[] {7, 0, 0, 1}, 2, 1);
        Due.outputs(Due.coded("k1k2lawooor"), new int[] {7, 0, 0, 1}, 2, 7, 1);
        Due.outputs(Due.coded("k1ioor"), new int[] {7, 0, 1, 1}, 3, 1);
        Due.says("t (popped: THROWN), r (the end).");
        Due.runs(Due.coded("k1lat"), new int[] {7, 0, 0, 1}, 0, 1, 7, 0, 1);
        Due.runs(Due.coded("k1larlbo"), new int[] {7, 0, 0, 1}, 0, 0, 0, 0, 1);
    }

    private static void byZero() {
        Due.says("/ and % by 0 THROW 99.");
        for (String text : new String[] {"lalb/or", "lalb%or"}) {
            for (int a : new int[] {0, 1, -1, LEAST, MOST}) {
                Due.runs(Due.coded(text), new int[] {a, 0, 0, 9}, 0, 1, 99, 0, 1);
                Due.outputs(Due.coded(text + "orh0,3,5"), new int[] {a, 0, 0, 9}, 99);
                Due.runs(Due.coded(text), new int[] {a, 1, 0, 9}, 1, 0, 0, 0, 1);
                Due.runs(Due.coded(text), new int[] {a, -1, 0, 9}, 1, 0, 0, 0, 1);
            }
        }
        Due.runs(Due.coded("lalb*lblb*+or"), new int[] {5, 0, 0, 9}, 1, 0, 0, 0, 1);
        // The lower one comes first: what throws there leaves no input to be drawn.
        Due.runs(Due.coded("lalb/i+or"), new int[] {5, 0, 0, 9}, 0, 1, 99, 0, 1);
        Due.runs(Due.coded("ilalb/+or"), new int[] {5, 0, 0, 9}, 0, 1, 99, 1, 1);
    }

    private static void goRound() {
        Due.says("Numbers are ints that go round; / and % cut towards 0.");
        gives("lalb+or", MOST, 1, LEAST);
        gives("lalb+or", MOST, 0, MOST);
        gives("lalb+or", LEAST, -1, MOST);
        gives("lalb-or", LEAST, 1, MOST);
        gives("lalb-or", MOST, -1, LEAST);
        gives("lalb*or", MOST, 2, -2);
        gives("lalb*or", LEAST, 2, 0);
        gives("lalb*or", LEAST, -1, LEAST);
        gives("lanor", LEAST, 0, LEAST);
        gives("lalb/or", LEAST, -1, LEAST);
        gives("lalb%or", LEAST, -1, 0);
        gives("lalb/or", 7, 2, 3);
        gives("lalb/or", -7, 2, -3);
        gives("lalb/or", 7, -2, -3);
        gives("lalb/or", -7, -2, 3);
        gives("lalb/or", -1, 2, 0);
        gives("lalb%or", 7, 2, 1);
        gives("lalb%or", -7, 2, -1);
        gives("lalb%or", 7, -2, 1);
        gives("lalb%or", -7, -2, -1);
        gives("lalb/or", LEAST, MOST, -1);
        gives("lalb%or", LEAST, MOST, -1);
    }

    private static void caughtFromTo() {
        Due.says("What is THROWN by an INSTRUCTION from FROM on, ahead of TO, goes to AT of the first such HANDLER");
        int[] call = {1, 0, 0, 9};
        Due.outputs(Due.coded(DIVIDES + "h2,3,5"), call, 99);
        Due.outputs(Due.coded(DIVIDES + "h0,3,5"), call, 99);
        Due.outputs(Due.coded(DIVIDES + "h2,7,5"), call, 99);
        Due.runs(Due.coded(DIVIDES + "h0,2,5"), call, 0, 1, 99, 0, 2);
        Due.runs(Due.coded(DIVIDES + "h3,7,5"), call, 0, 1, 99, 0, 1);
        Due.text("from FROM on, ahead of TO", Due.column(Due.coded(DIVIDES + "h1,4,5"), 'i', 4), "-1,0,0,0,-1,-1,-1");
        Due.text("all", Due.column(Due.coded(DIVIDES + "h0,7,5"), 'i', 4), "0,0,0,0,0,0,0");
        Due.text("the first, the last", Due.column(Due.coded(DIVIDES + "h0,1,5h6,7,5"), 'i', 4), "0,-1,-1,-1,-1,-1,1");
    }

    private static void firstHandler() {
        int[] call = {1, 0, 0, 9};
        String text = DIVIDES + "porpk7or";
        CodeLifter lifter = Due.coded(text + "h0,2,7h2,3,5h0,7,10");
        Due.outputs(lifter, call, 99);
        Due.text("of the three the second one", Due.column(lifter, 'i', 4).substring(0, 14), "0,0,1,2,2,2,2,");
        Due.outputs(Due.coded(text + "h0,2,5h0,7,10h2,3,5"), call, 7);
        Due.outputs(Due.coded(text + "h0,3,10h0,3,5h0,3,7"), call, 7);
    }

    private static void stackWhenCaught() {
        Due.says("the stack being that value alone");
        CodeLifter lifter = Due.coded("k1k2k3latorh0,5,5");
        Due.same("on the stack at AT", lifter.instruction(5, 2), 1);
        Due.same("at its block", lifter.block(1, 2), 1);
        Due.outputs(lifter, new int[] {-4, 0, 0, 9}, -4);
        CodeLifter again = Due.coded("k1k2k3k4lalb/rog0h0,7,8");
        Due.runs(again, new int[] {5, 0, 0, 200}, 100, 2, 0, 0, 200);
        Due.same("the last", again.output(0, 5, 0, 0, 200, 99), 99);
        Due.runs(again, new int[] {5, 1, 0, 200}, 0, 0, 0, 0, 2);
        Due.outputs(Due.coded("lalb/ornorh0,4,5"), new int[] {5, 0, 0, 9}, -99);
        Due.verdict("k1k2latoorh0,4,4", -4);
        Due.verdict("lat" + "rh0,2,2", 2);
    }

    private static void noHandler() {
        Due.says("without one it is the end.");
        Due.runs(Due.coded("lat"), new int[] {-4, 0, 0, 9}, 0, 1, -4, 0, 1);
        Due.runs(Due.coded("laolbtlborh0,3,5"), new int[] {-4, 3, 0, 9}, 1, 1, 3, 0, 2);
        // Thrown where what was thrown is caught, outside of FROM and TO, it is the end, too.
        Due.runs(Due.coded("lattrh0,2,2"), new int[] {-4, 0, 0, 9}, 0, 1, -4, 0, 2);
    }
}
