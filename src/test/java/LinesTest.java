/** Promises 15, 16 and 22: line, spell, most; each listing was written by hand from the document. */
public final class LinesTest {
    private static final int NONE = Due.NONE;
    private static final int HIDDEN = Due.HIDDEN;

    public static void main(String[] args) {
        straight();
        loop();
        breaksLeftOut();
        breakStays();
        merges();
        mergeWithin();
        emptyElse();
        emptyThen();
        jump();
        caught();
        caughtBack();
        breakOverLoop();
        everySign();
        columns();
        most();
        refused();
        Due.close();
    }

    private static CodeLifter tells(String text, String want) {
        CodeLifter lifter = Due.coded(text);
        Due.text("lines of " + text, Due.told(lifter), want);
        return lifter;
    }

    private static void straight() {
        tells("r", "B0:\nreturn;\n");
        tells("k7t", "B0:\nthrow 7;\n");
        tells("k9ok10ok99ok100ok999or", "B0:\nout 9;\nout 10;\nout 99;\nout 100;\nout 999;\nreturn;\n");
        tells("g1laor", "B0:\nB1:\nout a;\nreturn;\n");
        tells("iz2r", "B0:\nin;\nB1:\nreturn;\n");
    }

    private static void loop() {
        tells("k3sclcz11lcolck1-scg2r", """
            B0:
            c=3;
            loop B1{
             B1:
             if c{
              B2:
              out c;
              c=(c-1);
              continue B1;
             else{
              B3:
              return;
             }
            }
            """);
    }

    private static void breaksLeftOut() {
        CodeLifter lifter = tells("laz7lbz7k0sag0r", """
            loop B0{
             block B3{
              B0:
              if a{
               B1:
               if b{
                B2:
                a=0;
                continue B0;
               }
              }
             }
             B3:
             return;
            }
            """);
        Due.same("no break", lifter.most(2), 0);
        Due.same("a continue", lifter.most(3), 1);
    }

    private static void breakStays() {
        CodeLifter lifter = tells("laz7lbz7k1og9k2or", """
            block B4{
             block B3{
              B0:
              if a{
               B1:
               if b{
                B2:
                out 1;
                break B4;
               }
              }
             }
             B3:
             out 2;
            }
            B4:
            return;
            """);
        Due.same("one break", lifter.most(2), 1);
        Due.same("no continue", lifter.most(3), 0);
    }

    private static void merges() {
        tells("laz5k1og7k2or", """
            block B3{
             B0:
             if a{
              B1:
              out 1;
             else{
              B2:
              out 2;
             }
            }
            B3:
            return;
            """);
    }

    private static void mergeWithin() {
        tells("laz3g9lbz7k5ok2or", """
            block B5{
             B0:
             if a{
              B1:
             else{
              block B4{
               B2:
               if b{
                B3:
                out 5;
               }
              }
              B4:
              out 2;
             }
            }
            B5:
            return;
            """);
    }

    private static void emptyElse() {
        tells("laz4k1or", """
            block B2{
             B0:
             if a{
              B1:
              out 1;
             }
            }
            B2:
            return;
            """);
    }

    private static void emptyThen() {
        tells("la!z4g6k1or", """
            block B3{
             B0:
             if !a{
              B1:
             else{
              B2:
              out 1;
             }
            }
            B3:
            return;
            """);
        tells("laz3rk1or", """
            B0:
            if a{
             B1:
             return;
            else{
             B2:
             out 1;
             return;
            }
            """);
    }

    private static void jump() {
        CodeLifter lifter = tells("laz5lbog5lbz8g2r", """
            B0:
            if a{
             goto B1;
            else{
             loop B2{
              B2:
              if b{
               B3:
               B1:
               out b;
               continue B2;
              else{
               B4:
               return;
              }
             }
            }
            """);
        Due.same("kind of goto", lifter.line(2, 0), 8);
        Due.same("its block", lifter.line(2, 1), 1);
        Due.same("its signs", lifter.spell(2, NONE), 8);
    }

    private static void caught() {
        CodeLifter lifter = tells("lalb/ororh0,4,5", """
            block B2{
             B0:
             try{
              out (a/b);
             }catch B2;
             B1:
             return;
            }
            B2:
            out t0;
            return;
            """);
        Due.same("catch tells its handler's block", lifter.line(4, 1), 2);
        Due.same("try tells its own block", lifter.line(2, 1), 0);
        Due.same("a statement in try stands deeper", lifter.line(3, 2), 2);
        Due.same("catch stands as try", lifter.line(4, 2), 1);
        tells("k7torh0,2,2", """
            block B1{
             B0:
             try{
              throw 7;
             }catch B1;
            }
            B1:
            out t0;
            return;
            """);
    }

    private static void caughtBack() {
        tells("k1olalb/orh2,5,1", """
            block B1{
             B0:
             t0=1;
            }
            loop B1{
             B1:
             out t0;
             B2:
             try{
              t0=(a/b);
             }catch B1;
             B3:
             out t0;
             return;
            }
            """);
    }

    /** The end of a loop is no way back, so a break there falls over it. */
    private static void breakOverLoop() {
        tells("laz5lbz5g2k1or", """
            block B3{
             B0:
             if a{
              loop B1{
               B1:
               if b{
                B2:
                continue B1;
               }
              }
             }
            }
            B3:
            out 1;
            return;
            """);
    }

    private static void everySign() {
        tells("ilalb+lcld-*lelf%<=!nk10/or", """
            B0:
            out (-!(in=(((a+b)*(c-d))<(e%f)))/10);
            return;
            """);
        tells("idsfidpsfk12lflalb/poor", """
            B0:
            x0=in;
            f=x0;
            x1=in;
            f=x1;
            (a/b);
            out f;
            out 12;
            return;
            """);
    }

    private static void columns() {
        CodeLifter lifter = Due.coded("laz7lbz7k1og9k2or");
        int[][] want = {{2, 4, 0}, {2, 3, 1}, {11, 0, 2}, {3, 0, 2}, {11, 1, 3}, {3, 1, 3}, {11, 2, 4}, {0, 2, 4},
            {6, 4, 4}, {5, 1, 3}, {5, 0, 2}, {5, 3, 1}, {11, 3, 1}, {0, 3, 1}, {5, 4, 0}, {11, 4, 0}, {0, 4, 0}};
        Due.same("lines", lifter.count(8), want.length);
        for (int i = 0; i < want.length; i++) {
            for (int what = 0; what < 3; what++) {
                Due.same("line(" + i + ", " + what + ")", lifter.line(i, what), want[i][what]);
            }
        }
        CodeLifter loop = Due.coded("k3sclcz11lcolck1-scg2r");
        int[][] kinds = {{2, 1, 1, 0}, {4, 3, 1, 1}, {8, 7, 1, 2}, {9, 4, 1, 1}, {12, 5, 1, 1}, {13, 5, 1, 0}};
        for (int[] row : kinds) {
            for (int what = 0; what < 3; what++) {
                Due.same("line(" + row[0] + ", " + what + ")", loop.line(row[0], what), row[what + 1]);
            }
        }
        CodeLifter caught = Due.coded("lalb/ororh0,4,5");
        Due.same("try", caught.line(2, 0), 9);
        Due.same("catch", caught.line(4, 0), 10);
    }

    private static void most() {
        CodeLifter lifter = Due.coded("k3sclcz11lcolck1-scg2r");
        int[] want = {1, 2, 0, 1, 3, 2, 2, 3};
        for (int what = 0; what < want.length; what++) {
            Due.same("most(" + what + ")", lifter.most(what), want[what]);
        }
        Due.same("most(-1)", lifter.most(-1), HIDDEN);
        Due.same("most(8)", lifter.most(8), HIDDEN);
        Due.same("of several the lowest", Due.coded("k1og2k2og4r").most(6), 0);
        Due.same("a loop of 0 alone", Due.coded("g0").most(0), 1);
        Due.same("no statement at all", Due.coded("g0").most(6), 0);
        Due.same("no expression at all", Due.coded("r").most(4), 0);
        Due.same("the highest stack is behind", Due.coded("k1k1k1pppr").most(5), 3);
        Due.same("what isn't come to is no stack", Due.coded("rk1k1k1").most(5), 0);
        Due.same("three { }", Due.coded("laz7lbz7k0sag0r").most(1), 4);
    }

    private static void refused() {
        CodeLifter lifter = Due.coded("laor");
        Due.same("lines", lifter.count(8), 3);
        Due.same("B", lifter.spell(0, 0), 'B');
        Due.same("0", lifter.spell(0, 1), '0');
        Due.same(":", lifter.spell(0, 2), ':');
        Due.same("behind", lifter.spell(0, 3), NONE);
        Due.same("below", lifter.spell(0, -2), NONE);
        for (int bad : new int[] {-1, 3, 1000, Integer.MIN_VALUE, Integer.MAX_VALUE}) {
            Due.same("line(" + bad + ", 0)", lifter.line(bad, 0), HIDDEN);
            Due.same("line(0, " + bad + ")", lifter.line(0, bad), HIDDEN);
            Due.same("spell(" + bad + ", -1)", lifter.spell(bad, NONE), NONE);
            Due.same("spell(" + bad + ", 0)", lifter.spell(bad, 0), NONE);
        }
    }
}
