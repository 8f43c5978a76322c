/** What is RIGHT, BLOCKS, EDGES and promises 1 to 6: each sentence that names a bound, at the bound and just outside of it. */
public final class RightBoundsTest {
    private static final int NONE = Due.NONE;
    private static final int HIDDEN = Due.HIDDEN;
    private static final String COUNTDOWN = "k3sclcz11lcolck1-scg2r";

    private RightBoundsTest() {
    }

    public static void main(String[] args) {
        leadsInside();
        needsWhatItPops();
        notMoreThanSix();
        nextOne();
        asManyEachTime();
        whatIsMetFirst();
        onlyWhatIsComeTo();
        cuts();
        edges();
        eachBlockOnce();
        newObject();
        feed();
        end();
        fault();
        code();
        codeRefused();
        put();
        putRefused();
        putNotRight();
        refusedLeavesAll();
        fullTape();
        Due.close();
    }

    private static void leadsInside() {
        Due.says("It is RIGHT, if g, z go to INSTRUCTIONS there are, FROM is below TO, TO no more than there are INSTRUCTIONS, "
            + "AT is one (else -2)");
        Due.verdict("rg0", 1);
        Due.verdict("rg1", 1);
        Due.verdict("rg2", -2);
        Due.verdict("rz1", 1);
        Due.verdict("rz2", -2);
        Due.verdict("r".repeat(39) + "g39", 1);
        Due.verdict("r".repeat(38) + "g39", -2);
        Due.verdict("rrh0,1,0", 1);
        Due.verdict("rrh1,2,1", 1);
        Due.verdict("rrh0,2,1", 1);
        Due.verdict("rrh0,3,1", -2);
        Due.verdict("rrh0,0,1", -2);
        Due.verdict("rrh1,1,1", -2);
        Due.verdict("rrh2,1,1", -2);
        Due.verdict("rrh0,1,1", 1);
        Due.verdict("rrh0,1,2", -2);
        Due.verdict("rrh0,1,1h0,1,2", -2);
        Due.verdict("rrh0,1,1h0,1,1h1,1,1", -2);
        Due.verdict("r".repeat(40) + "h39,40,39", 1);
        Due.verdict("r".repeat(40) + "h0,40,40", -2);
        Due.verdict("r".repeat(40) + "h40,40,0", -2);
    }

    private static void needsWhatItPops() {
        Due.says("it needs what it pops (else -4)");
        for (char sign : "!ndpot".toCharArray()) {
            Due.verdict(sign + "r", -4);
            Due.verdict("k1" + sign + "r", 1);
        }
        for (char sign : "+-*/%<=w".toCharArray()) {
            Due.verdict(sign + "r", -4);
            Due.verdict("k1" + sign + "r", -4);
            Due.verdict("k1k1" + sign + "r", 1);
        }
        Due.verdict("sar", -4);
        Due.verdict("k1sar", 1);
        Due.verdict("z1r", -4);
        Due.verdict("k1z2r", 2);
        Due.verdict("lalbir", 1);
        Due.verdict("g1r", 2);
    }

    private static void notMoreThanSix() {
        Due.says("not more than 6 are on the stack behind it (-5)");
        for (String sign : new String[] {"k1", "la", "i", "d"}) {
            Due.verdict("k1" + sign.repeat(5) + "r", 1);
            Due.verdict("k1" + sign.repeat(6) + "r", -5);
        }
        for (String sign : new String[] {"w", "!", "n", "+", "sa", "p", "o"}) {
            Due.verdict("k1".repeat(6) + sign + "r", 1);
        }
        Due.verdict("k1".repeat(6) + "g7r", 2);
        CodeLifter lifter = Due.coded("k1".repeat(6) + "t");
        Due.same("the most on the stack", lifter.most(5), 6);
        Due.same("ahead of t", lifter.instruction(6, 2), 6);
        Due.same("six T", Due.coded("k1".repeat(6) + "g7r").count(11), 6);
    }

    private static void nextOne() {
        Due.says("to the next one (but from g, t, r; -3 if there is none)");
        for (String last : new String[] {"k1", "la", "sa", "+", "!", "n", "d", "p", "w", "i", "o", "z0", "/", "%"}) {
            Due.verdict("k1k1" + last, -3);
        }
        Due.verdict("g0", 1);
        Due.verdict("k1t", 1);
        Due.verdict("r", 1);
        Due.verdict("r".repeat(39) + "i", 1);
        Due.verdict("k1p".repeat(19) + "k1p", -3);
    }

    private static void asManyEachTime() {
        Due.says("it has as many each time (-6)");
        Due.verdict("k1g0", -6);
        Due.verdict("k1pg0", 1);
        Due.verdict("k1z3k1r", -6);
        Due.verdict("k1z3ir", -6);
        Due.verdict("laz4k1pr", 3);
        Due.says("if it can THROW (/ % t), to its HANDLER's AT, with 1 on the stack");
        Due.verdict("lalb/orh0,4,4", -6);
        Due.verdict("lalb%orh0,4,4", -6);
        Due.verdict("latrh0,2,0", -6);
        Due.verdict("lalb/nrh0,4,4", 2);
        Due.verdict("lalb*orh0,4,4", 2);
        Due.verdict("k1k1k1lalb/o+rh0,8,6", -6);
        Due.verdict("k1lalb/orh0,5,5", 2);
        Due.verdict("k1lalb/o+rh0,5,5", -4);
    }

    private static void whatIsMetFirst() {
        Due.says("of those come to, and not gone through yet, always the lowest");
        Due.verdict("g3orlaz1k1k1k1k1k1k1k1r", -4);
        Due.verdict("g3prlaz1k1k1k1k1k1k1k1r", -4);
        Due.verdict("g3k1g5laz1or", -6);
        Due.says("What is met first tells it.");
        Due.verdict("og9", -2);
        Due.verdict("k1k1k1k1k1k1k1o", -5);
        Due.verdict("k1k1k1k1k1k1k1", -5);
        Due.verdict("k1k1/h0,3,0", -3);
        Due.verdict("k1k1z0", -3);
        Due.verdict("k1k1k1k1k1k1k1g0", -5);
        Due.verdict("og0", -4);
        Due.verdict("k1z3ok1k1k1k1k1k1k1r", -4);
    }

    private static void onlyWhatIsComeTo() {
        Due.says("Only what is come to counts from now on.");
        CodeLifter lifter = Due.coded("g4oolark1k1sag1");
        Due.same("one block for g, one for r", lifter.count(1), 2);
        Due.same("an edge", lifter.count(2), 1);
        Due.text("how many are on the stack", Due.column(lifter, 'i', 2), "0,-1,-1,-1,0,-1,-1,-1,-1");
        Due.text("of which block", Due.column(lifter, 'i', 3), "0,-1,-1,-1,1,-1,-1,-1,-1");
        Due.same("no dead store", lifter.count(14), 0);
        Due.same("nor here", lifter.instruction(7, 5), 0);
        Due.same("no more on the stack", lifter.most(5), 0);
        Due.same("statements", lifter.count(9), 1);
        Due.text("nothing that isn't come to cuts", Due.column(Due.coded("k1prg1z1"), 'b', 0), "0");
        Due.verdict("rooo", 1);
        Due.verdict("rk1k1k1k1k1k1k1", 1);
    }

    private static void begins(String text, String want) {
        Due.text("begins of " + text, Due.column(Due.coded(text), 'b', 0), want);
    }

    private static void cuts() {
        Due.says("BLOCKS: cut ahead of where g, z go, of each FROM, TO, AT, behind g, z, t, r; numbered by first INSTRUCTION.");
        begins("k1pk2pr", "0");
        begins("k1pk2pg2", "0,2");
        begins("k1pk2pk3z2r", "0,2,6");
        begins("k1pk2prh2,5,0", "0,2");
        begins("k1pk2prh0,2,0", "0,2");
        begins("k1pk2prh0,5,2", "0,2");
        begins("k1pk2prh1,3,4", "0,1,3,4");
        begins("k1pk2prh0,5,0", "0");
        begins("k1pk2prh0,1,4h0,2,4h0,3,4", "0,1,2,3,4");
        begins("g2rg1", "0,1,2");
        begins("laz2k1pr", "0,2");
        begins("lat", "0");
        begins("latrh0,2,2", "0,2");
        begins("laz3rr", "0,2,3");
        Due.text("last ones", Due.column(Due.coded("k1pk2prh1,3,4"), 'b', 1), "0,2,3,4");
        begins("r".repeat(39) + "rh38,40,39", "0");
    }

    private static void edges(String text, String from, String to, String thrown) {
        CodeLifter lifter = Due.coded(text);
        Due.text("from, " + text, Due.column(lifter, 'e', 0), from);
        Due.text("to, " + text, Due.column(lifter, 'e', 1), to);
        Due.text("as it throws, " + text, Due.column(lifter, 'e', 4), thrown);
    }

    private static void edges() {
        Due.says("EDGES of a BLOCK: to the next one first (of z, or what just goes on), then to where g, z go, then to its HANDLER's, "
            + "if it can THROW");
        edges("r", "", "", "");
        edges("k1t", "", "", "");
        edges("lalb/z7rorrh0,4,5", "0,0,0", "1,3,2", "0,0,1");
        edges("laz3rr", "0,0", "1,2", "0,0");
        edges("laz0r", "0,0", "1,0", "0,0");
        edges("k1pk2pg2", "0,1", "1,1", "0,0");
        edges("latrh0,2,2", "0", "1", "1");
        edges("lalb/g6orrh0,4,4", "0,0", "2,1", "0,1");
        // A block that can't throw has no edge to its handler's.
        edges("lalb*z7rorrh0,4,5", "0,0", "1,2", "0,0");
        edges("lalbrorh0,3,3", "", "", "");
    }

    private static void eachBlockOnce() {
        Due.says("(an EDGE as something THROWS, also if it goes there otherwise, too); each BLOCK once.");
        edges("laz2r", "0", "1", "0");
        edges("lalb/orh0,3,3", "0", "1", "1");
        edges("k1lalb/z6rorh0,5,6", "0,0", "1,2", "0,1");
        edges("k1lalb/z5orh0,5,5", "0", "1", "1");
        edges("k1lalb/z1lalbprh0,5,5", "0,1,1", "1,2,1", "0,1,0");
        edges("lalb/lalb%+torh0,8,8", "0", "1", "1");
    }

    private static void newObject() {
        Due.says("`CodeLifter()`: No CODE.");
        CodeLifter lifter = new CodeLifter();
        Due.same("count(0)", lifter.count(0), HIDDEN);
        Due.same("count(1)", lifter.count(1), HIDDEN);
        Due.same("bytes", lifter.count(12), 0);
        Due.same("fault()", lifter.fault(), 0);
        Due.same("code()", lifter.code(), NONE);
    }

    private static void feed() {
        Due.says("Twenty bytes more come to the TAPE (of each number the highest first; bytes of 0 are left out): how many it has.");
        CodeLifter lifter = new CodeLifter();
        Due.same("none", lifter.feed(0, 0, 0, 0, 0), 0);
        Due.same("one", lifter.feed(0, 0, 0, 0, 'k'), 1);
        Due.same("one more", lifter.feed('1' << 24, 0, 0, 0, 0), 2);
        Due.same("four more", lifter.feed('o' << 16, 'k' << 8, '2' << 24 | 'o', 0, 0), 6);
        Due.same("one more", lifter.feed(0, 0, 0, 0, 'r'), 7);
        Due.same("k1ok2or", lifter.code(), 1);
        Due.outputs(lifter, new int[] {0, 0, 0, 1}, 1, 2);
        int many = 'a' << 24 | 'b' << 16 | 'c' << 8 | 'd';
        Due.same("twenty", lifter.feed(many, many, many, many, many), 20);
        Due.same("bytes above 127", lifter.feed(-1, 0x80808080, 0, 0, 0), 28);
        Due.says("NONE: more than 240.");
        CodeLifter full = Due.fed("k1" + " ".repeat(217));
        Due.same("bytes", full.count(12), 219);
        Due.same("twenty more", full.feed(many, many, many, many, many), 239);
        Due.same("two more", full.feed(0, 0, 0, 0, 0x6161), NONE);
        Due.same("none of these came", full.count(12), 239);
        Due.same("one more", full.feed(0, 0, 0, 0, 0x61), 240);
        Due.same("none more", full.feed(0, 0, 0, 0, 0), 240);
        Due.same("one more", full.feed(0x61000000, 0, 0, 0, 0), NONE);
        Due.same("twenty more", full.feed(many, many, many, many, many), NONE);
        for (int place = 0; place < 20; place++) {
            int[] one = new int[5];
            one[place / 4] = 1 << place % 4 * 8;
            Due.same("one more in " + place, full.feed(one[0], one[1], one[2], one[3], one[4]), NONE);
            one[place / 4] = 128 << place % 4 * 8;
            Due.same("one more in " + place, full.feed(one[0], one[1], one[2], one[3], one[4]), NONE);
        }
        Due.same("all stays", full.count(12), 240);
        Due.same("as it was", full.fault(), 219);
        Due.same("240 bytes of code", Due.fed("r" + " ".repeat(239)).code(), 1);
    }

    private static void end() {
        Due.says("The TAPE has its first n bytes alone. False: n.");
        CodeLifter lifter = Due.fed("k1ok2xyz");
        Due.fails("end(-1)", lifter.end(NONE));
        Due.fails("end(9)", lifter.end(9));
        Due.fails("the least", lifter.end(Integer.MIN_VALUE));
        Due.fails("the most", lifter.end(Integer.MAX_VALUE));
        Due.same("all stay", lifter.count(12), 8);
        Due.holds("end(8)", lifter.end(8));
        Due.same("all stay", lifter.count(12), 8);
        Due.holds("end(3)", lifter.end(3));
        Due.same("the first three", lifter.count(12), 3);
        Due.fails("end(4)", lifter.end(4));
        Due.feed(lifter, "r");
        Due.same("the first three and r", lifter.code(), 1);
        Due.holds("end(0) of none", lifter.end(0));
        Due.fails("end(1) of none", lifter.end(1));
        Due.feed(lifter, "k9");
        Due.holds("end(0)", lifter.end(0));
        Due.same("none", lifter.count(12), 0);
        CodeLifter full = Due.fed("r".repeat(240));
        Due.fails("end(241)", full.end(241));
        Due.holds("end(240)", full.end(240));
        Due.holds("end(239)", full.end(239));
        Due.same("one less", full.count(12), 239);
    }

    private static void fault() {
        Due.says("The FAULT of the TAPE. NONE: none.");
        CodeLifter lifter = Due.fed("rx");
        Due.same("a fault", lifter.fault(), 1);
        lifter.end(1);
        Due.same("no fault", lifter.fault(), NONE);
        Due.same("it takes nothing", lifter.count(12), 1);
        Due.same("nor is it code", lifter.count(0), HIDDEN);
        Due.same("code()", lifter.code(), 1);
        Due.same("of the tape, not of the code", lifter.fault(), 0);
        Due.feed(lifter, "og7");
        Due.same("what isn't right is no fault", lifter.fault(), NONE);
        Due.same("the code stays", lifter.count(0), 1);
    }

    private static void code() {
        Due.says("The TAPE (empty then) is the CODE: how many BLOCKS.");
        CodeLifter lifter = Due.fed("r");
        Due.same("one block", lifter.code(), 1);
        Due.same("empty then", lifter.count(12), 0);
        Due.same("its text is done with", lifter.code(), NONE);
        Due.feed(lifter, "g1g2g3r");
        Due.same("four blocks", lifter.code(), 4);
        Due.same("they are counted", lifter.count(1), 4);
        Due.same("empty then", lifter.feed(0, 0, 0, 0, 'r'), 1);
        StringBuilder chain = new StringBuilder();
        for (int i = 1; i < 40; i++) {
            chain.append('g').append(i);
        }
        Due.verdict(chain + "g0", 40);
    }

    private static void codeRefused() {
        Due.says("NONE: a FAULT; -2 to -6: it isn't RIGHT (the TAPE and all stays).");
        String[] texts = {"", "k1ox", "g9", "k1", "o", "k1k1k1k1k1k1k1", "k1g0"};
        int[] want = {NONE, NONE, -2, -3, -4, -5, -6};
        CodeLifter lifter = Due.coded(COUNTDOWN);
        String before = Due.everything(lifter);
        CodeLifter empty = new CodeLifter();
        for (int k = 0; k < texts.length; k++) {
            for (CodeLifter each : new CodeLifter[] {lifter, empty}) {
                Due.feed(each, texts[k]);
                Due.same("code of " + texts[k], each.code(), want[k]);
                Due.same("again", each.code(), want[k]);
                Due.same("the tape stays", each.count(12), texts[k].length());
                Due.holds("end", each.end(0));
            }
            Due.text("the code stays", Due.everything(lifter), before);
            Due.same("no code yet", empty.count(1), HIDDEN);
        }
        Due.outputs(lifter, new int[] {0, 0, 0, 200}, 3, 2, 1);
    }

    private static void put() {
        Due.says("An INSTRUCTION is another one: its sign, its number (of l, s 0 .. 5 a to f; of those without one it must be 0): "
            + "how many BLOCKS.");
        CodeLifter lifter = Due.coded("k1k2+or" + "r".repeat(35));
        Due.same("the first", lifter.put(0, 'k', 0), 1);
        Due.same("999", lifter.put(1, 'k', 999), 1);
        Due.same("a", lifter.put(0, 'l', 0), 1);
        Due.same("f", lifter.put(1, 'l', 5), 1);
        Due.same("into a", lifter.put(3, 's', 0), 1);
        Due.same("into f", lifter.put(3, 's', 5), 1);
        for (char sign : "+-*/%<=".toCharArray()) {
            Due.same("put " + sign, lifter.put(2, sign, 0), 1);
        }
        for (char sign : "po".toCharArray()) {
            Due.same("put " + sign, lifter.put(3, sign, 0), 1);
        }
        for (char sign : "idwnt!r".toCharArray()) {
            Due.same("put " + sign, lifter.put(39, sign, 0), 1);
            Due.same("it stands", lifter.instruction(39, 0), sign);
        }
        Due.same("the last", lifter.put(39, 'g', 39), 1);
        Due.same("the last", lifter.put(39, 'z', 0), 1);
        Due.same("its number", lifter.instruction(39, 1), 0);
        Due.same("more blocks", lifter.put(4, 'g', 0), 1);
        Due.same("more blocks", lifter.put(4, 'g', 5), 2);
        Due.same("i is reached", lifter.instruction(5, 3), 1);
    }

    private static void putRefused() {
        Due.says("NONE: no such ones; -2 to -6: it isn't RIGHT then (nothing changes).");
        CodeLifter lifter = Due.coded(COUNTDOWN);
        Due.feed(lifter, "k1");
        String before = Due.everything(lifter);
        for (int i : new int[] {-1, 12, 39, 40, 64, Integer.MIN_VALUE, Integer.MAX_VALUE}) {
            Due.same("put(" + i + ", r, 0)", lifter.put(i, 'r', 0), NONE);
        }
        for (int sign = -300; sign < 400; sign++) {
            if (sign < 0 || "klsgz+-*/%<=!ndpwiotr".indexOf(sign) < 0) {
                Due.same("put(11, " + sign + ", 0)", lifter.put(11, sign, 0), NONE);
            }
        }
        for (char sign : "+-*/%<=!ndpwiotr".toCharArray()) {
            for (int number : new int[] {-1, 1, 5, Integer.MIN_VALUE, Integer.MAX_VALUE}) {
                Due.same("put(11, " + sign + ", " + number + ")", lifter.put(11, sign, number), NONE);
            }
        }
        int[] above = {'k', 1000, 'l', 6, 's', 6, 'g', 40, 'z', 40};
        for (int k = 0; k < above.length; k += 2) {
            Due.same("put of -1", lifter.put(11, above[k], -1), NONE);
            Due.same("put of the least", lifter.put(11, above[k], Integer.MIN_VALUE), NONE);
            Due.same("put of one too much", lifter.put(11, above[k], above[k + 1]), NONE);
            Due.same("put of the most", lifter.put(11, above[k], Integer.MAX_VALUE), NONE);
        }
        Due.text("nothing changes", Due.everything(lifter), before);
        Due.same("no code", new CodeLifter().put(0, 'r', 0), NONE);
        CodeLifter faulty = Due.fed("r");
        Due.same("a tape is no code", faulty.put(0, 'r', 0), NONE);
    }

    private static void putNotRight() {
        Due.says("-2 to -6: it isn't RIGHT then (nothing changes).");
        CodeLifter lifter = Due.coded(COUNTDOWN);
        String before = Due.everything(lifter);
        Due.same("g 12", lifter.put(10, 'g', 12), -2);
        Due.same("g 39", lifter.put(10, 'g', 39), -2);
        Due.same("i at the end", lifter.put(11, 'i', 0), -3);
        Due.same("o at the end", lifter.put(11, 'o', 0), -4);
        Due.same("d for o", lifter.put(5, 'd', 0), -6);
        Due.text("nothing changes", Due.everything(lifter), before);
        CodeLifter deep = Due.coded("k1k1k1k1k1k1wr");
        String deepBefore = Due.everything(deep);
        Due.same("d for w", deep.put(6, 'd', 0), -5);
        Due.same("k for w", deep.put(6, 'k', 0), -5);
        Due.text("nothing changes", Due.everything(deep), deepBefore);
        CodeLifter caught = Due.coded("lalb*nrh0,4,4");
        Due.same("no throw, no edge", caught.count(2), 1);
        Due.same("it may throw now", caught.put(2, '/', 0), 2);
        Due.same("as many there", caught.put(3, 'p', 0), -6);
        Due.same("its handler stays", caught.count(3), 1);
    }

    /** What is refused, or only asked for, leaves all as it was. */
    private static void refusedLeavesAll() {
        Due.says("Nothing is promised beyond the answers and state changes described above");
        CodeLifter lifter = Due.coded(COUNTDOWN);
        Due.feed(lifter, "k1x");
        String before = Due.everything(lifter);
        for (int bad : new int[] {-1, 40, 64, Integer.MIN_VALUE, Integer.MAX_VALUE}) {
            lifter.end(bad);
            lifter.put(bad, 'r', 0);
            lifter.put(0, bad, 0);
            lifter.put(0, 'k', bad == 40 || bad == 64 ? 1000 : bad);
            lifter.count(bad);
            lifter.edge(bad, 0);
            lifter.dominates(bad, bad);
            lifter.loop(bad);
            lifter.statement(bad, 0, 0);
            lifter.condition(1, bad);
            lifter.line(bad, 0);
            lifter.spell(bad, 0);
            lifter.type(bad, 0);
            lifter.run(bad, 1, 1, 1, 1, 0);
            lifter.output(0, 1, 1, 1, 1, bad);
            lifter.comesTo(bad);
            lifter.far(0, bad);
            lifter.most(bad);
            Due.refuses("instruction", () -> lifter.instruction(bad, 0));
            Due.refuses("block", () -> lifter.block(bad, 0));
        }
        Due.same("a fault", lifter.fault(), 2);
        Due.same("no code", lifter.code(), NONE);
        Due.text("all is as it was", Due.everything(lifter), before);
        Due.same("the tape, too", lifter.count(12), 3);
    }

    private static void fullTape() {
        Due.says("The TAPE (empty then) is the CODE: how many BLOCKS.");
        CodeLifter lifter = Due.coded(COUNTDOWN);
        Due.feed(lifter, "k7t" + " ".repeat(237));
        Due.same("full", lifter.count(12), 240);
        Due.same("none more", lifter.feed(' ', 0, 0, 0, 0), NONE);
        Due.same("put leaves it", lifter.put(0, 'k', 5), 4);
        Due.same("full still", lifter.count(12), 240);
        Due.same("no fault", lifter.fault(), NONE);
        Due.same("it is code", lifter.code(), 1);
        Due.same("empty", lifter.count(12), 0);
        Due.same("twenty more", lifter.feed(-1, -1, -1, -1, -1), 20);
        CodeLifter long240 = Due.fed(" k 999 p  ".repeat(20) + "r" + " h 0 , 1 , 0".repeat(3) + " ".repeat(3));
        Due.same("full", long240.count(12), 240);
        Due.same("forty and one", long240.fault(), 200);
    }
}
