/** Part 4 of the terms, promises 15, 16, 18, 19, 22: each sentence that names a bound, at the bound and just outside of it. */
public final class LineBoundsTest {
    private static final int NONE = Due.NONE;
    private static final int HIDDEN = Due.HIDDEN;
    private static final int LEAST = Integer.MIN_VALUE;
    private static final int MOST = Integer.MAX_VALUE;
    private static final String COUNTDOWN = "k3sclcz11lcolck1-scg2r";
    private static final String CAUGHT = "lalb/ororh0,4,5";
    private static final String ENTERED_TWICE = "laz5lbog5lbz8g2r";
    private static final int[] FAR_OFF = {-1, -2, 800, 801, 1000, LEAST, MOST};

    private LineBoundsTest() {
    }

    public static void main(String[] args) {
        loops();
        mergesByOrder();
        mergesLikewise();
        mergeThatIsLoop();
        tries();
        ends();
        goesTo();
        breaksLeftOut();
        breakOverLoop();
        breakStays();
        emptyElse();
        howLinesGo();
        spelled();
        spelledLong();
        lineBounds();
        spellBounds();
        begins();
        inputs();
        blocksTold();
        whatRunTells();
        runRefused();
        output();
        most();
        Due.close();
    }

    private static CodeLifter tells(String text, String want) {
        CodeLifter lifter = Due.coded(text);
        Due.text("lines of " + text, Due.told(lifter), want);
        return lifter;
    }

    private static void loops() {
        Due.says("LINES, told of BLOCK 0: of a BLOCK B: if it is a LOOP: \"loop B{\", what follows, \"}\".");
        tells("r", "B0:\nreturn;\n");
        tells("g0", "loop B0{\n B0:\n continue B0;\n}\n");
        tells("g1g1", "B0:\nloop B1{\n B1:\n continue B1;\n}\n");
        tells("laz0r", """
            loop B0{
             B0:
             if a{
              B1:
              return;
             else{
              continue B0;
             }
            }
            """);
    }

    private static void mergesByOrder() {
        Due.says("Of MERGES B is ABOVE of, by ORDER, the last one first: \"block M{\", what follows (with the others), \"}\"");
        // By ORDER 5 stands ahead of 1.
        tells("g4lcorlaz9lbz9g1k2og1", """
            B0:
            block B1{
             block B5{
              B2:
              if a{
               B3:
               if b{
                B4:
                break B1;
               }
              }
             }
             B5:
             out 2;
            }
            B1:
            out c;
            return;
            """);
        tells("laz4k1or", "block B2{\n B0:\n if a{\n  B1:\n  out 1;\n }\n}\nB2:\nreturn;\n");
    }

    private static void mergesLikewise() {
        Due.says("then M likewise, as it stands there.");
        tells("laz4k1olbz8k2or", """
            block B2{
             B0:
             if a{
              B1:
              out 1;
             }
            }
            block B4{
             B2:
             if b{
              B3:
              out 2;
             }
            }
            B4:
            return;
            """);
    }

    private static void mergeThatIsLoop() {
        tells("laz4k1olbz7g4r", """
            block B2{
             B0:
             if a{
              B1:
              out 1;
             }
            }
            loop B2{
             B2:
             if b{
              B3:
              continue B2;
             else{
              B4:
              return;
             }
            }
            """);
    }

    private static void tries() {
        Due.says("Innermost: \"B:\"; its STATEMENTS (if there is an EDGE as it THROWS: \"try{\", these, \"}catch H\")");
        tells("lalb/z5rrorh0,4,6", """
            block B3{
             B0:
             try{
              x0=(a/b);
             }catch B3;
             if x0{
              B1:
              return;
             else{
              B2:
              return;
             }
            }
            B3:
            out t0;
            return;
            """);
        tells("k7torh0,2,2", "block B1{\n B0:\n try{\n  throw 7;\n }catch B1;\n}\nB1:\nout t0;\nreturn;\n");
        // It can throw, but none catches; a handler, but it can't throw.
        tells("lalb/orh0,2,3", "B0:\nt0=a;\nt1=b;\nB1:\nt0=(t0/t1);\nB2:\nout t0;\nreturn;\n");
        tells("lalb*orh0,3,3", "B0:\nt0=(a*b);\nB1:\nout t0;\nreturn;\n");
    }

    private static void ends() {
        Due.says("then its end: of z \"if E{\", where it goes on if E isn't 0 (the next one), \"else{\", the other one, \"}\"; "
            + "else where it goes on.");
        CodeLifter lifter = tells("laz3rk1or", """
            B0:
            if a{
             B1:
             return;
            else{
             B2:
             out 1;
             return;
            }
            """);
        Due.outputs(lifter, new int[] {0, 0, 0, 9}, 1);
        Due.outputs(lifter, new int[] {1, 0, 0, 9});
        Due.outputs(lifter, new int[] {-1, 0, 0, 9});
        tells("laz2r", "B0:\nB1:\nreturn;\n");
        tells("g1k1t", "B0:\nB1:\nthrow 1;\n");
    }

    private static void goesTo() {
        Due.says("Where one goes to C: a JUMP: \"goto C\"; BACK: \"continue C\"; a MERGE: \"break C\"; else C as above, there "
            + "(in CATCH: \"}catch H\" alone tells it).");
        tells(ENTERED_TWICE, """
            B0:
            if a{
             goto B1;
            else{
             loop B2{
              B2:
              if b{
               B3:
               B1:
               out b;
               continue B2;
              else{
               B4:
               return;
              }
             }
            }
            """);
        tells("k1olalb/orh2,5,1", """
            block B1{
             B0:
             t0=1;
            }
            loop B1{
             B1:
             out t0;
             B2:
             try{
              t0=(a/b);
             }catch B1;
             B3:
             out t0;
             return;
            }
            """);
    }

    private static void breaksLeftOut() {
        Due.says("A \"break\" is left out, if, going on behind it over \"}\" (at \"else{\" to behind its \"}\"), one comes to the \"}\" "
            + "of that \"block\" and no other LINE but these");
        CodeLifter lifter = tells("laz5k1og7k2or", """
            block B3{
             B0:
             if a{
              B1:
              out 1;
             else{
              B2:
              out 2;
             }
            }
            B3:
            return;
            """);
        Due.same("none is left", lifter.most(2), 0);
        CodeLifter deeper = tells("laz10lbz7k1og12k2og12k3or", """
            block B5{
             B0:
             if a{
              B1:
              if b{
               B2:
               out 1;
              else{
               B3:
               out 2;
              }
             else{
              B4:
              out 3;
             }
            }
            B5:
            return;
            """);
        Due.same("nor here", deeper.most(2), 0);
        Due.outputs(deeper, new int[] {1, 1, 0, 9}, 1);
        Due.outputs(deeper, new int[] {1, 0, 0, 9}, 2);
        Due.outputs(deeper, new int[] {0, 0, 0, 9}, 3);
    }

    private static void breakOverLoop() {
        CodeLifter lifter = tells("laz5lbz5g2k1or", """
            block B3{
             B0:
             if a{
              loop B1{
               B1:
               if b{
                B2:
                continue B1;
               }
              }
             }
            }
            B3:
            out 1;
            return;
            """);
        Due.says("\"}\" of \"loop\" is no way back; \"continue C\" is: to \"loop C{\"");
        Due.outputs(lifter, new int[] {0, 0, 0, 9}, 1);
        Due.outputs(lifter, new int[] {1, 0, 0, 9}, 1);
        Due.runs(lifter, new int[] {1, 0, 0, 9}, 1, 0, 0, 0, 3);
        Due.runs(lifter, new int[] {1, 1, 0, 9}, 0, 2, 0, 0, 9);
    }

    private static void breakStays() {
        Due.says("one comes to the \"}\" of that \"block\" and no other LINE but these");
        CodeLifter lifter = tells("laz6lbz8k1ok2or", """
            block B4{
             block B3{
              B0:
              if a{
               B1:
               if b{
                B2:
                out 1;
               else{
                break B4;
               }
              }
             }
             B3:
             out 2;
            }
            B4:
            return;
            """);
        Due.same("one is left", lifter.most(2), 1);
        Due.outputs(lifter, new int[] {0, 0, 0, 9}, 2);
        Due.runs(lifter, new int[] {1, 0, 0, 9}, 0, 0, 0, 0, 3);
        Due.runs(lifter, new int[] {1, 0, 0, 2}, 0, 2, 0, 0, 2);
        Due.outputs(lifter, new int[] {1, 1, 0, 9}, 1, 2);
    }

    private static void emptyElse() {
        Due.says("then an \"else{\" with nothing in it is left out.");
        CodeLifter lifter = tells("laz4k1or", "block B2{\n B0:\n if a{\n  B1:\n  out 1;\n }\n}\nB2:\nreturn;\n");
        Due.outputs(lifter, new int[] {0, 0, 0, 9});
        // An "if" with nothing in it isn't.
        tells("laz5k1orlbog2", "block B1{\n B0:\n if a{\n else{\n  B2:\n  out b;\n }\n}\nB1:\nout 1;\nreturn;\n");
        tells("la!z4g6k1or", "block B3{\n B0:\n if !a{\n  B1:\n else{\n  B2:\n  out 1;\n }\n}\nB3:\nreturn;\n");
    }

    private static void howLinesGo() {
        Due.says("\"break C\": behind the \"}\" of \"block C{\"; \"goto C\": to \"C:\"; what is THROWN in \"try\": T0 is it, "
            + "then as \"break H\" or \"continue H\" (BACK).");
        Due.runs(Due.coded(ENTERED_TWICE), new int[] {1, 4, 0, 8}, 3, 2, 0, 0, 8);
        Due.runs(Due.coded(ENTERED_TWICE), new int[] {1, 0, 0, 8}, 1, 0, 0, 0, 4);
        Due.outputs(Due.coded(CAUGHT), new int[] {7, 0, 0, 9}, 99);
        Due.outputs(Due.coded(CAUGHT), new int[] {7, 2, 0, 9}, 3);
        Due.outputs(Due.coded("latorh0,2,2"), new int[] {-8, 0, 0, 9}, -8);
        // a=3 and t0=7 and x0=1 are held apart.
        Due.outputs(Due.coded("k7g2k3saor"), new int[] {0, 0, 0, 9}, 7);
        Due.outputs(Due.coded("k1k2g3wg5oor"), new int[] {0, 0, 0, 9}, 1, 2);
        Due.outputs(Due.coded("k1olalb/orh2,5,1"), new int[] {6, 0, 0, 5}, 1, 99);
        Due.outputs(Due.coded("k1olalb/orh2,5,1"), new int[] {6, 2, 0, 5}, 1, 3);
    }

    private static void spelled() {
        Due.says("SPELLED: as above, B, C, H, M as B and the number; STATEMENTS a=E; x0=E; t0=E; out E; E; throw E; return; "
            + "with a ; behind break, continue, goto, catch, too");
        tells("idsflalb/pla!opk1g13t", """
            B0:
            x0=in;
            f=x0;
            (a/b);
            out !a;
            t0=1;
            B1:
            throw t0;
            """);
        Due.says("of E: numbers, a .. f, t0 .., x0 .., in, (E+E) and so on, !E, -E.");
        tells("ilalb+lcld-*lelf%<=!nk10/or", "B0:\nout (-!(in=(((a+b)*(c-d))<(e%f)))/10);\nreturn;\n");
        tells("la!n!no" + "r", "B0:\nout -!-!a;\nreturn;\n");
        tells("k0ok9ok10ok99ok100ok999or", "B0:\nout 0;\nout 9;\nout 10;\nout 99;\nout 100;\nout 999;\nreturn;\n");
    }

    private static void spelledLong() {
        CodeLifter lifter = Due.coded("iiiiiioppppp" + "iiiiiioppppp" + "iiopr");
        Due.text("x9, x10", Due.statements(lifter, 0).replaceAll("^.*(x9=)", "$1"), "x9=in;out in;x10=in;out in;return;");
        StringBuilder chain = new StringBuilder();
        for (int i = 1; i < 40; i++) {
            chain.append('g').append(i);
        }
        CodeLifter blocks = Due.coded(chain + "g39");
        Due.same("lines", blocks.count(8), 43);
        Due.text("B9", Due.spelled(blocks, 9), "B9:");
        Due.text("B10", Due.spelled(blocks, 10), "B10:");
        Due.text("loop B39", Due.spelled(blocks, 39), "loop B39{");
        Due.text("B39", Due.spelled(blocks, 40), "B39:");
        Due.text("continue B39", Due.spelled(blocks, 41), "continue B39;");
        Due.text("}", Due.spelled(blocks, 42), "}");
        CodeLifter deep = Due.coded("k999".repeat(6) + "+++++" + "k999+".repeat(13) + "or");
        Due.same("nineteen numbers", deep.statement(0, 0, 2), 19 * 3 + 18 * 3);
        Due.same("with all within", deep.statement(0, 0, 4), 37);
        Due.same("its line", deep.spell(1, NONE), 19 * 3 + 18 * 3 + 5);
        Due.same("the last sign", deep.spell(1, 19 * 3 + 18 * 3 + 4), ';');
        Due.same("the one ahead", deep.spell(1, 19 * 3 + 18 * 3 + 3), ')');
        Due.same("behind", deep.spell(1, 19 * 3 + 18 * 3 + 5), NONE);
    }

    private static void lineBounds() {
        Due.says("1 the BLOCK (of if, else, try, STATEMENTS that of which they are; of } that of what it ends), "
            + "2 in how many { } it stands (a } and else{ as what it ends). HIDDEN: no such ones, TANGLED.");
        CodeLifter lifter = Due.coded("lalb/z5rrorh0,4,6");
        int[][] want = {{2, 3, 0}, {11, 0, 1}, {9, 0, 1}, {0, 0, 2}, {10, 3, 1}, {3, 0, 1}, {11, 1, 2}, {0, 1, 2}, {4, 0, 1}, {11, 2, 2},
            {0, 2, 2}, {5, 0, 1}, {5, 3, 0}, {11, 3, 0}, {0, 3, 0}, {0, 3, 0}};
        Due.same("lines", lifter.count(8), want.length);
        for (int i = 0; i < want.length; i++) {
            for (int what = 0; what < 3; what++) {
                Due.same("line(" + i + ", " + what + ")", lifter.line(i, what), want[i][what]);
            }
        }
        int[][] jump = {{2, 8, 1, 1}, {3, 4, 0, 0}, {4, 1, 2, 1}, {10, 7, 2, 3}, {14, 5, 2, 2}, {15, 5, 2, 1}, {16, 5, 0, 0}};
        CodeLifter entered = Due.coded(ENTERED_TWICE);
        for (int[] row : jump) {
            for (int what = 0; what < 3; what++) {
                Due.same("line(" + row[0] + ", " + what + ")", entered.line(row[0], what), row[what + 1]);
            }
        }
        Due.same("a break tells where to", Due.coded("laz6lbz8k1ok2or").line(9, 0), 6);
        Due.same("a break tells where to", Due.coded("laz6lbz8k1ok2or").line(9, 1), 4);
        Due.same("line(16, 0)", lifter.line(16, 0), HIDDEN);
        Due.same("line(0, 3)", lifter.line(0, 3), HIDDEN);
        Due.same("line(15, 3)", lifter.line(15, 3), HIDDEN);
        Due.same("no code", new CodeLifter().line(0, 0), HIDDEN);
        for (int bad : FAR_OFF) {
            Due.same("line(" + bad + ", 0)", lifter.line(bad, 0), HIDDEN);
            Due.same("line(0, " + bad + ")", lifter.line(0, bad), HIDDEN);
        }
    }

    private static void spellBounds() {
        Due.says("The k-th sign of the i-th LINE as SPELLED (k NONE: how many). NONE: no such ones, TANGLED.");
        CodeLifter lifter = Due.coded("k1or");
        Due.same("lines", lifter.count(8), 3);
        Due.same("how many", lifter.spell(2, NONE), 7);
        Due.same("the first", lifter.spell(2, 0), 'r');
        Due.same("the last", lifter.spell(2, 6), ';');
        Due.same("spell(2, 7)", lifter.spell(2, 7), NONE);
        Due.same("spell(2, -2)", lifter.spell(2, -2), NONE);
        Due.same("spell(3, NONE)", lifter.spell(3, NONE), NONE);
        Due.same("spell(3, 0)", lifter.spell(3, 0), NONE);
        Due.same("no code", new CodeLifter().spell(0, NONE), NONE);
        for (int bad : FAR_OFF) {
            Due.same("spell(" + bad + ", NONE)", lifter.spell(bad, NONE), NONE);
            Due.same("spell(" + bad + ", 0)", lifter.spell(bad, 0), NONE);
            Due.same("spell(0, " + bad + ")", lifter.spell(0, bad), bad == NONE ? 3 : NONE);
        }
    }

    private static void begins() {
        Due.says("RUN: VARIABLES a, b told, others 0");
        CodeLifter lifter = Due.coded("laolbolcoldoleolfok9sck9sdk9sek9sfr");
        for (int round = 0; round < 2; round++) {
            Due.outputs(lifter, new int[] {LEAST, MOST, 0, 1}, LEAST, MOST, 0, 0, 0, 0);
            Due.runs(lifter, new int[] {-1, 3, 0, 1}, 6, 0, 0, 0, 1, -1, 3, 9, 9, 9, 9);
        }
        Due.says("5 to 10 VARIABLES then");
        Due.runs(Due.coded("r"), new int[] {LEAST, MOST, 0, 1}, 0, 0, 0, 0, 1, LEAST, MOST, 0, 0, 0, 0, 0);
        Due.runs(Due.coded("k7sfk8t"), new int[] {1, 2, 0, 1}, 0, 1, 8, 0, 1, 1, 2, 0, 0, 0, 7, 0);
    }

    private static void inputs() {
        Due.says("INPUTS: DRAWS by a seed: it becomes itself times 1103515245 and 12345, the INPUT is its bits 16 to 30 modulo 5.");
        CodeLifter lifter = Due.coded("io".repeat(19) + "r");
        for (int seed : new int[] {0, 1, 2, -1, 7, 12345, LEAST, MOST, 1103515245, 20261118}) {
            long state = seed & 0xFFFFFFFFL;
            int[] want = new int[19];
            for (int k = 0; k < 19; k++) {
                state = (state * 1103515245L + 12345L) % 4294967296L;
                want[k] = (int) (state / 65536L % 32768L % 5L);
            }
            Due.outputs(lifter, new int[] {0, 0, seed, 1}, want);
        }
        Due.same("nineteen", lifter.run(0, 0, 0, 0, 1, 3), 19);
        Due.same("nineteen", lifter.run(1, 0, 0, 0, 1, 3), 19);
        Due.same("none", Due.coded("r").run(1, 0, 0, 0, 1, 3), 0);
        Due.runs(Due.coded("ipr"), new int[] {0, 0, 0, 1}, 0, 0, 0, 1, 1);
    }

    private static void blocksTold() {
        Due.says("As many BLOCKS as told are entered at most.");
        CodeLifter lifter = Due.coded("lak1+sag0");
        for (int blocks : new int[] {1, 2, 199, 200}) {
            Due.runs(lifter, new int[] {0, 0, 0, blocks}, 0, 2, 0, 0, blocks, blocks);
        }
        Due.says("of so many BLOCKS (1 .. 200)");
        for (int blocks : new int[] {0, -1, 201, LEAST, MOST}) {
            Due.same("of the code, " + blocks, lifter.run(0, 0, 0, 0, blocks, 4), HIDDEN);
            Due.same("of the lines, " + blocks, lifter.run(1, 0, 0, 0, blocks, 4), HIDDEN);
        }
        Due.says("1: 0 it ended by r, 1 something was THROWN out of it, 2 one BLOCK more would be entered");
        CodeLifter three = Due.coded("k1og3k2og6r");
        Due.runs(three, new int[] {0, 0, 0, 1}, 1, 2, 0, 0, 1);
        Due.runs(three, new int[] {0, 0, 0, 2}, 2, 2, 0, 0, 2);
        Due.runs(three, new int[] {0, 0, 0, 3}, 2, 0, 0, 0, 3);
        Due.runs(three, new int[] {0, 0, 0, 200}, 2, 0, 0, 0, 3);
        Due.runs(Due.coded("k5t"), new int[] {0, 0, 0, 1}, 0, 1, 5, 0, 1);
        Due.runs(Due.coded("latorh0,2,2"), new int[] {5, 0, 0, 1}, 0, 2, 0, 0, 1);
        Due.runs(Due.coded("latorh0,2,2"), new int[] {5, 0, 0, 2}, 1, 0, 0, 0, 2);
    }

    private static void whatRunTells() {
        Due.says("2: what was THROWN out of it (0 else)");
        Due.runs(Due.coded("lat"), new int[] {LEAST, 0, 0, 1}, 0, 1, LEAST);
        Due.runs(Due.coded("lat"), new int[] {0, 0, 0, 1}, 0, 1, 0);
        Due.runs(Due.coded("latorh0,2,2"), new int[] {5, 0, 0, 9}, 1, 0, 0);
        Due.runs(Due.coded("lat" + "prh0,2,2"), new int[] {5, 0, 0, 1}, 0, 2, 0);
        Due.runs(Due.coded("lalb/or"), new int[] {5, 0, 0, 1}, 0, 1, 99);
        Due.runs(Due.coded("lalb/or"), new int[] {5, 1, 0, 1}, 1, 0, 0);
        Due.says("11 OUTPUTS told one by the other: 31 times what ahead of it comes to, and it.");
        Due.same("none", Due.coded("r").run(0, 1, 1, 0, 1, 11), 0);
        for (int how = 0; how < 2; how++) {
            CodeLifter lifter = Due.coded("laolbolaor");
            Due.same("one", Due.coded("laor").run(how, -7, 0, 0, 1, 11), -7);
            Due.same("three", lifter.run(how, 2, 3, 0, 1, 11), (2 * 31 + 3) * 31 + 2);
            Due.same("they go round", lifter.run(how, MOST, LEAST, 0, 1, 11), (MOST * 31 + LEAST) * 31 + MOST);
        }
    }

    private static void runRefused() {
        Due.says("HIDDEN: no such ones, TANGLED (how 1), out of bounds.");
        CodeLifter lifter = Due.coded("k1or");
        for (int bad : new int[] {-1, -2, 12, 13, 64, 201, LEAST, MOST}) {
            Due.same("run of the code, what " + bad, lifter.run(0, 0, 0, 0, 1, bad), HIDDEN);
            Due.same("run of the lines, what " + bad, lifter.run(1, 0, 0, 0, 1, bad), HIDDEN);
            Due.same("run how " + bad, lifter.run(bad, 0, 0, 0, 1, 0), HIDDEN);
            Due.same("output how " + bad, lifter.output(bad, 0, 0, 0, 1, 0), HIDDEN);
        }
        Due.same("run how 2", lifter.run(2, 0, 0, 0, 1, 0), HIDDEN);
        Due.same("output how 2", lifter.output(2, 0, 0, 0, 1, 0), HIDDEN);
        for (int what = -1; what <= 12; what++) {
            Due.same("no code", new CodeLifter().run(0, 0, 0, 0, 1, what), HIDDEN);
            Due.same("no lines", new CodeLifter().run(1, 0, 0, 0, 1, what), HIDDEN);
        }
    }

    private static void output() {
        Due.says("The k-th OUTPUT of such a RUN. HIDDEN: no such one, as in run().");
        CodeLifter lifter = Due.coded("laolbor");
        Due.outputs(lifter, new int[] {4, 5, 0, 1}, 4, 5);
        for (int how = 0; how < 2; how++) {
            for (int bad : new int[] {-1, -2, 2, 3, LEAST, MOST}) {
                Due.same("output(.., " + bad + ")", lifter.output(how, 4, 5, 0, 1, bad), HIDDEN);
            }
            for (int blocks : new int[] {0, -1, 201, LEAST, MOST}) {
                Due.same("of " + blocks + " blocks", lifter.output(how, 4, 5, 0, blocks, 0), HIDDEN);
            }
            Due.same("of 200 blocks", lifter.output(how, 4, 5, 0, 200, 1), 5);
            Due.same("no code", new CodeLifter().output(how, 4, 5, 0, 1, 0), HIDDEN);
            Due.same("none", Due.coded("r").output(how, 4, 5, 0, 1, 0), HIDDEN);
            Due.same("of one block alone", Due.coded("laog3lbor").output(how, 4, 5, 0, 1, 1), HIDDEN);
            Due.same("of two", Due.coded("laog3lbor").output(how, 4, 5, 0, 2, 1), 5);
        }
    }

    private static void most() {
        Due.says("1 the most { } in which a LINE is (NONE: TANGLED), 2 \"break\", 3 \"continue\" LINES (NONE: TANGLED)");
        Due.same("none", Due.coded("r").most(1), 0);
        Due.same("one", Due.coded("g0").most(1), 1);
        Due.same("two", Due.coded(COUNTDOWN).most(1), 2);
        Due.same("by try", Due.coded("latorh0,2,2").most(1), 2);
        Due.same("no break", Due.coded("laz4k1or").most(2), 0);
        Due.same("one break", Due.coded("laz6lbz8k1ok2or").most(2), 1);
        Due.same("no continue", Due.coded("r").most(3), 0);
        Due.same("one continue", Due.coded("g0").most(3), 1);
        Due.same("two", Due.coded("laz0lbz0r").most(3), 2);
        Due.says("5 the most on the stack");
        Due.same("none", Due.coded("r").most(5), 0);
        Due.same("one", Due.coded("k1t").most(5), 1);
        Due.same("six", Due.coded("k1".repeat(6) + "t").most(5), 6);
        Due.same("what isn't come to counts not", Due.coded("rk1k1k1r").most(5), 0);
        Due.says("HIDDEN: no CODE, no such what.");
        CodeLifter lifter = Due.coded(COUNTDOWN);
        for (int what = 0; what <= 7; what++) {
            Due.fails("most(" + what + ")", lifter.most(what) < 0);
            Due.same("no code", new CodeLifter().most(what), HIDDEN);
        }
        for (int bad : new int[] {-1, -2, 8, 9, 64, LEAST, MOST}) {
            Due.same("most(" + bad + ")", lifter.most(bad), HIDDEN);
            Due.same("no code", new CodeLifter().most(bad), HIDDEN);
        }
    }
}
