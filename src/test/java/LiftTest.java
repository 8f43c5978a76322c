/** Promises 13, 14 and 17: statement, condition, type; and 9, 10, 11, 13 of count. */
public final class LiftTest {
    private static final int NONE = Due.NONE;
    private static final int HIDDEN = Due.HIDDEN;

    public static void main(String[] args) {
        effectsStayInOrder();
        storesPutAside();
        twice();
        exchange();
        pops();
        ends();
        namesOfTheStack();
        conditions();
        columns();
        unlike();
        truths();
        refused();
        Due.close();
    }

    private static void lifts(String text, String want) {
        Due.text("statements of " + text, Due.statements(Due.coded(text), 0), want);
    }

    private static void effectsStayInOrder() {
        lifts("lalb+or", "out (a+b);return;");
        lifts("ik5oor", "x0=in;out 5;out x0;return;");
        lifts("i!lak5oor", "x0=!in;out 5;out a;return;");
        lifts("lalb/lalb%k5or", "x0=(a/b);x1=(a%b);out 5;return;");
        lifts("ii+or", "out (in+in);return;");
        lifts("lalb*lalb-k5opor", "out 5;out (a*b);return;");
        lifts("lalb<or", "out (a<b);return;");
        lifts("ilbt", "x0=in;throw b;");
        lifts("ir", "x0=in;return;");
        lifts("k999nor", "out -999;return;");
    }

    private static void storesPutAside() {
        lifts("lak5saor", "x0=a;a=5;out x0;return;");
        lifts("lbk5saor", "a=5;out b;return;");
        lifts("lalb+k1sbor", "x0=(a+b);b=1;out x0;return;");
        lifts("lak1+sar", "a=(a+1);return;");
        lifts("lalalbsaoor", "x0=a;x1=a;a=b;out x1;out x0;return;");
        lifts("lalbisbpor", "x0=b;b=in;out a;return;");
        lifts("ilalbsbpor", "x0=in;b=b;out x0;return;");
    }

    private static void twice() {
        lifts("lad+or", "out (a+a);return;");
        lifts("k3d*or", "out (3*3);return;");
        lifts("idor", "x0=in;out x0;return;");
        lifts("lalb+dor", "x0=(a+b);out x0;return;");
        lifts("ilandor", "x0=in;x1=-a;out x1;return;");
        lifts("iladoor", "x0=in;out a;out a;return;");
        lifts("idd++or", "x0=in;out (x0+(x0+x0));return;");
    }

    private static void exchange() {
        lifts("iiw-or", "x0=in;out (in-x0);return;");
        lifts("ik1woor", "out in;out 1;return;");
        lifts("k1iwoor", "x0=in;out 1;out x0;return;");
        lifts("ilalb/wpor", "x0=in;out (a/b);return;");
        lifts("iiiw-w-or", "x0=in;x1=in;out ((in-x1)-x0);return;");
        lifts("lalbw-or", "out (b-a);return;");
        lifts("ilaw-or", "out (a-in);return;");
    }

    private static void pops() {
        lifts("lalb/pr", "(a/b);return;");
        lifts("lalb+pr", "return;");
        lifts("ipr", "in;return;");
        lifts("iipor", "x0=in;in;out x0;return;");
        lifts("ilbpor", "out in;return;");
        CodeLifter next = Due.coded("iiz3or");
        Due.text("z to the next one is as p", Due.statements(next, 0), "x0=in;in;t0=x0;");
        Due.same("and has no condition", next.condition(0, NONE), NONE);
        Due.text("z of a name to the next one", Due.statements(Due.coded("laz2r"), 0), "");
    }

    private static void ends() {
        CodeLifter lifter = Due.coded("iig3-or");
        Due.text("in order", Due.statements(lifter, 0), "t0=in;t1=in;");
        Due.text("then names", Due.statements(lifter, 1), "out (t0-t1);return;");
        CodeLifter chooses = Due.coded("k7iz5orpr");
        Due.text("z's with effects comes last", Due.statements(chooses, 0), "t0=7;x0=in;");
        Due.text("it is the x then", Due.condition(chooses, 0), "x0");
        CodeLifter both = Due.coded("iiz5orpr");
        Due.text("both have effects", Due.statements(both, 0), "t0=in;x0=in;");
    }

    private static void namesOfTheStack() {
        CodeLifter turned = Due.coded("k1k2g3wg5oor");
        Due.text("put", Due.statements(turned, 0), "t0=1;t1=2;");
        Due.text("exchanged", Due.statements(turned, 1), "x0=t0;t0=t1;t1=x0;");
        Due.text("taken", Due.statements(turned, 2), "out t1;out t0;return;");
        Due.same("T", turned.count(11), 2);
        CodeLifter steps = Due.coded("k5g2dk1-wz9g2rpr");
        Due.text("z's own needs it yet", Due.statements(steps, 1), "x0=t0;t0=(t0-1);");
        Due.text("condition", Due.condition(steps, 1), "x0");
        CodeLifter twoNeeds = Due.coded("k1k2g3k3wg6+or");
        Due.text("t1 goes up", Due.statements(twoNeeds, 1), "x0=t1;t1=3;t2=x0;");
        CodeLifter same = Due.coded("k1k2g3g4+or");
        Due.text("what stays isn't put", Due.statements(same, 1), "");
        CodeLifter counted = Due.coded("ig2ig4+or");
        Due.text("only what is new is put", Due.statements(counted, 1), "t1=in;");
        CodeLifter fresh = Due.coded("idpg4idpg8pprp");
        Due.text("x of the first", Due.statements(fresh, 0), "x0=in;t0=x0;");
        Due.text("x of the second", Due.statements(fresh, 1), "x1=in;t1=x1;");
    }

    private static void conditions() {
        CodeLifter lifter = Due.coded("lalb<!z6rr");
        Due.text("condition", Due.condition(lifter, 0), "!(a<b)");
        Due.same("how many signs", lifter.condition(0, NONE), 6);
        Due.same("the first", lifter.condition(0, 0), '!');
        Due.same("the last", lifter.condition(0, 5), ')');
        Due.same("behind it", lifter.condition(0, 6), NONE);
        Due.same("far below", lifter.condition(0, -2), NONE);
        Due.same("no z", lifter.condition(1, NONE), NONE);
        Due.same("no z, no sign", lifter.condition(1, 0), NONE);
        Due.same("no such block", lifter.condition(3, NONE), NONE);
        Due.same("no such block", lifter.condition(-1, NONE), NONE);
        CodeLifter g = Due.coded("g1r");
        Due.same("g has none", g.condition(0, NONE), NONE);
    }

    private static void columns() {
        CodeLifter lifter = Due.coded("iiw-olalb%pk12sfg12r");
        int[][] want = {{2, 0, 2, 1, 1}, {3, NONE, 7, 1, 3}, {4, NONE, 5, 1, 3}, {0, 5, 2, 0, 1}};
        for (int i = 0; i < want.length; i++) {
            for (int what = 0; what < 5; what++) {
                Due.same("statement(0, " + i + ", " + what + ")", lifter.statement(0, i, what), want[i][what]);
            }
        }
        int[] ends = {6, NONE, 0, 0, 0};
        CodeLifter thrown = Due.coded("k1g2t");
        int[][] others = {{1, 0, 1, 0, 1}, {5, NONE, 2, 0, 1}};
        for (int what = 0; what < 5; what++) {
            Due.same("return " + what, lifter.statement(1, 0, what), ends[what]);
            Due.same("t0= " + what, thrown.statement(0, 0, what), others[0][what]);
            Due.same("throw " + what, thrown.statement(1, 0, what), others[1][what]);
        }
        Due.same("statements", lifter.count(9), 5);
        Due.same("x", lifter.count(10), 1);
        Due.same("most parts", lifter.most(4), 3);
        CodeLifter deep = Due.coded("i" + "!".repeat(37) + "or");
        Due.same("a deep one", deep.statement(0, 0, 2), 39);
        Due.same("its parts", deep.statement(0, 0, 4), 38);
        Due.same("it is spelled", Due.spelled(deep, 1).length(), 44);
        Due.same("it runs", deep.output(1, 0, 0, 1, 1, 0), deep.output(0, 0, 0, 1, 1, 0));
    }

    private static void unlike() {
        Due.same("a name is none", Due.coded("laor").count(13), 0);
        Due.same("a number is one", Due.coded("k1ok1ok2or").count(13), 2);
        Due.same("all within", Due.coded("lak1+k1+or").count(13), 3);
        Due.same("told once", Due.coded("lak1+olak1+or").count(13), 2);
        Due.same("lower and upper differ", Due.coded("lalb-olbla-or").count(13), 2);
        Due.same("in z too", Due.coded("lak1=z5rr").count(13), 2);
        Due.same("nothing of what is popped", Due.coded("lak1+pr").count(13), 0);
        Due.same("input", Due.coded("ioior").count(13), 1);
    }

    private static void truths() {
        CodeLifter cycle = Due.coded("la!scldsclcsdr");
        Due.text("a to f", types(cycle, 0, 6), "0,0,1,1,1,1");
        Due.text("numbers", types(Due.coded("k0sck1sdk2ser"), 0, 6), "0,0,1,1,0,1");
        Due.text("turned about", types(Due.coded("lcnsdlc!selalb<sfr"), 0, 6), "0,0,1,0,1,1");
        Due.text("operators", types(Due.coded("lclc+sclalb=sdlclc*sfr"), 0, 6), "0,0,0,1,1,0");
        Due.text("a is none, even as 1", types(Due.coded("k1sak1sbr"), 0, 6), "0,0,1,1,1,1");
        Due.text("it goes on to others", types(Due.coded("iscldselcsdr"), 0, 6), "0,0,0,0,0,1");
        CodeLifter slots = Due.coded("k1k2g3g4oor");
        Due.text("t", types(slots, 1, 3), "1,0,-1");
        CodeLifter fresh = Due.coded("la!d-oidpor");
        Due.text("x", types(fresh, 2, 3), "1,0,-1");
        Due.same("names that are truths", fresh.most(7), 4 + 1);
        CodeLifter thrown = Due.coded("lalb/ororh0,4,5");
        Due.text("what is thrown is none", types(thrown, 1, 1), "0");
        Due.text("even if it is 1", types(Due.coded("k1torh0,2,2"), 1, 1), "0");
        CodeLifter still = Due.coded("k1g2or");
        Due.text("else it may be", types(still, 1, 1), "1");
    }

    private static String types(CodeLifter lifter, int sort, int names) {
        StringBuilder all = new StringBuilder();
        for (int number = 0; number < names; number++) {
            all.append(number == 0 ? "" : ",").append(lifter.type(sort, number));
        }
        return all.toString();
    }

    private static void refused() {
        CodeLifter lifter = Due.coded("k1or");
        Due.same("kind", lifter.statement(0, 0, 0), 3);
        for (int bad : new int[] {-1, 2, 40, 64, Integer.MIN_VALUE, Integer.MAX_VALUE}) {
            Due.same("statement(0, " + bad + ", 0)", lifter.statement(0, bad, 0), HIDDEN);
            Due.same("statement(" + bad + ", 0, 0)", lifter.statement(bad, 0, 0), HIDDEN);
            Due.same("condition(" + bad + ", -1)", lifter.condition(bad, NONE), NONE);
            Due.same("type(1, " + bad + ")", lifter.type(1, bad), NONE);
            Due.same("type(2, " + bad + ")", lifter.type(2, bad), NONE);
        }
        Due.same("statement(0, 0, 5)", lifter.statement(0, 0, 5), HIDDEN);
        Due.same("statement(0, 0, -1)", lifter.statement(0, 0, -1), HIDDEN);
        Due.same("type(0, 6)", lifter.type(0, 6), NONE);
        Due.same("type(0, -1)", lifter.type(0, -1), NONE);
        Due.same("type(3, 0)", lifter.type(3, 0), NONE);
        Due.same("type(-1, 0)", lifter.type(-1, 0), NONE);
        Due.same("T of return", lifter.count(11), 0);
        Due.same("T at an end", Due.coded("k1k1k1r").count(11), 3);
    }
}
