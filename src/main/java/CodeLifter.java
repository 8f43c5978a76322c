import java.util.NoSuchElementException;

/** A decompiler for a small stack machine: code to blocks, to statements, to lines, and runs of both. */
public final class CodeLifter {
    public static final int NONE = -1;
    public static final int HIDDEN = -1000000;

    private static final int MOST_BYTES = 240;
    private static final int MOST_INSTRUCTIONS = 40;
    private static final int MOST_HANDLERS = 3;
    private static final int MOST_ON_STACK = 6;
    private static final int MOST_EDGES = 120;
    private static final int VARIABLES = 6;
    private static final int MOST_STATEMENTS = 320;
    private static final int MOST_X = 160;
    private static final int MOST_EXPRESSIONS = 512;
    private static final int MOST_LINES = 800;
    private static final int MOST_SIGNS = 400;
    private static final int MOST_BLOCKS_RUN = 200;
    private static final int MOST_STEPS = 1000000;
    /** No tree of expressions or lines is as deep: forty instructions make forty levels at most. */
    private static final int DEEPEST = 60;

    private static final int SET_VARIABLE = 0;
    private static final int SET_T = 1;
    private static final int SET_X = 2;
    private static final int OUT = 3;
    private static final int ALONE = 4;
    private static final int THROW = 5;
    private static final int RETURN = 6;

    private static final int STATEMENT = 0;
    private static final int LOOP = 1;
    private static final int BLOCK = 2;
    private static final int IF = 3;
    private static final int ELSE = 4;
    private static final int CLOSE = 5;
    private static final int BREAK = 6;
    private static final int CONTINUE = 7;
    private static final int GOTO = 8;
    private static final int TRY = 9;
    private static final int CATCH = 10;
    private static final int LABEL = 11;
    private static final int LEFT_OUT = 12;

    private static final int RETURNED = 0;
    private static final int THROWN = 1;
    private static final int STOPPED = 2;
    private static final int DIVIDED_BY_ZERO = 99;

    private final Tape tape;
    private final Listing listing;
    private final Listing draft;
    private final Blocks blocks;
    private final Shape shape;
    private final Pool pool;
    private final Lifted lifted;
    private final Truths truths;
    private final Liveness liveness;
    private final Lines lines;
    private final Machine machine;
    private final Pen pen;
    private boolean loaded;

    public CodeLifter() {
        tape = new Tape();
        listing = new Listing();
        draft = new Listing();
        blocks = new Blocks(listing);
        shape = new Shape(blocks);
        pool = new Pool();
        lifted = new Lifted(listing, blocks, pool);
        truths = new Truths(blocks, pool, lifted);
        liveness = new Liveness(listing, blocks);
        lines = new Lines(blocks, shape, lifted);
        machine = new Machine(listing, blocks, pool, lifted, lines);
        pen = new Pen(pool, lifted, lines);
        loaded = false;
    }

    public int feed(int a, int b, int c, int d, int e) {
        int more = bytesIn(a) + bytesIn(b) + bytesIn(c) + bytesIn(d) + bytesIn(e);
        if (tape.length + more > MOST_BYTES) {
            return NONE;
        }
        tape.append(a);
        tape.append(b);
        tape.append(c);
        tape.append(d);
        tape.append(e);
        return tape.length;
    }

    public boolean end(int n) {
        if (n < 0 || n > tape.length) {
            return false;
        }
        tape.length = n;
        return true;
    }

    public int fault() {
        return tape.read(draft) ? NONE : tape.at;
    }

    public int code() {
        if (!tape.read(draft)) {
            return NONE;
        }
        int verdict = draft.judge();
        if (verdict != 0) {
            return verdict;
        }
        tape.length = 0;
        adoptDraft();
        return blocks.size;
    }

    public int put(int i, int sign, int number) {
        if (!loaded || i < 0 || i >= listing.size || !isInstruction(sign, number)) {
            return NONE;
        }
        draft.copy(listing);
        draft.sign[i] = sign;
        draft.number[i] = number;
        int verdict = draft.judge();
        if (verdict != 0) {
            return verdict;
        }
        adoptDraft();
        return blocks.size;
    }

    public int count(int what) {
        if (what == 12) {
            return tape.length;
        }
        if (!loaded) {
            return HIDDEN;
        }
        switch (what) {
            case 0: return listing.size;
            case 1: return blocks.size;
            case 2: return blocks.edges;
            case 3: return listing.handlers;
            case 4: return Long.bitCount(shape.loops);
            case 5: return Long.bitCount(shape.merges);
            case 6: return shape.tangled ? NONE : shape.jumps;
            case 7: return shape.reduced ? 1 : 0;
            case 8: return shape.tangled ? NONE : lines.size;
            case 9: return lifted.size;
            case 10: return lifted.fresh;
            case 11: return blocks.names;
            case 13: return lifted.unlike;
            case 14: return Long.bitCount(liveness.dead);
            default: return HIDDEN;
        }
    }

    public int instruction(int i, int what) throws NoSuchElementException {
        if (!loaded || i < 0 || i >= listing.size || what < 0 || what > 5) {
            throw new NoSuchElementException("no such instruction");
        }
        switch (what) {
            case 0: return listing.sign[i];
            case 1: return listing.number[i];
            case 2: return listing.depth[i];
            case 3: return blocks.of[i];
            case 4: return listing.handlerOf(i);
            default: return isIn(liveness.dead, i) ? 1 : 0;
        }
    }

    public int block(int block, int what) throws NoSuchElementException {
        if (!isBlock(block) || what < 0 || what > 12) {
            throw new NoSuchElementException("no such block");
        }
        switch (what) {
            case 0: return blocks.first[block];
            case 1: return blocks.last[block];
            case 2: return listing.depth[blocks.first[block]];
            case 3: return shape.place[block];
            case 4: return shape.above[block];
            case 5: return shape.innermost(block);
            case 6: return shape.loopsRound(block);
            case 7: return isIn(shape.merges, block) ? 1 : 0;
            case 8: return isIn(shape.loops, block) ? 1 : 0;
            case 9: return lifted.first[block + 1] - lifted.first[block];
            case 10: return liveness.begin[block];
            case 11: return liveness.behind[block];
            default: return blocks.catcher[block];
        }
    }

    public int edge(int i, int what) {
        if (!loaded || i < 0 || i >= blocks.edges) {
            return HIDDEN;
        }
        switch (what) {
            case 0: return blocks.source[i];
            case 1: return blocks.target[i];
            case 2: return shape.back[i] ? 1 : 0;
            case 3: return shape.jump[i] ? 1 : 0;
            case 4: return blocks.throwing[i] ? 1 : 0;
            default: return HIDDEN;
        }
    }

    public boolean dominates(int block, int other) {
        return isBlock(block) && isBlock(other) && isIn(shape.dominators[other], block);
    }

    public long loop(int block) {
        return isBlock(block) && isIn(shape.loops, block) ? shape.members[block] : NONE;
    }

    public int statement(int block, int i, int what) {
        if (!isBlock(block) || i < 0 || i >= lifted.first[block + 1] - lifted.first[block]) {
            return HIDDEN;
        }
        int at = lifted.first[block] + i;
        int expression = lifted.expression[at];
        switch (what) {
            case 0: return lifted.kind[at];
            case 1: return lifted.which[at];
            case 2: return expression == NONE ? 0 : pen.widthOf(expression);
            case 3: return expression != NONE && pool.hasEffects(expression) ? 1 : 0;
            case 4: return expression == NONE ? 0 : pool.parts[expression];
            default: return HIDDEN;
        }
    }

    public int condition(int block, int k) {
        if (!isBlock(block) || lifted.test[block] == NONE) {
            return NONE;
        }
        int width = pen.widthOf(lifted.test[block]);
        return k == NONE ? width : pen.signAt(k);
    }

    public int line(int i, int what) {
        if (!isLine(i)) {
            return HIDDEN;
        }
        switch (what) {
            case 0: return lines.kind[i];
            case 1: return lines.block[i];
            case 2: return lines.depth[i];
            default: return HIDDEN;
        }
    }

    public int spell(int i, int k) {
        if (!isLine(i)) {
            return NONE;
        }
        int width = pen.widthOfLine(i);
        return k == NONE ? width : pen.signAt(k);
    }

    public int type(int sort, int number) {
        if (!loaded || number < 0) {
            return NONE;
        }
        switch (sort) {
            case 0: return number < VARIABLES ? oneIf(truths.variable[number]) : NONE;
            case 1: return number < blocks.names ? oneIf(truths.slot[number]) : NONE;
            case 2: return number < lifted.fresh ? oneIf(truths.fresh[number]) : NONE;
            default: return NONE;
        }
    }

    public int run(int how, int a, int b, int seed, int blocks, int what) {
        if (!canRun(how, blocks) || what < 0 || what > 11) {
            return HIDDEN;
        }
        machine.begin(a, b, seed, blocks, NONE);
        goThrough(how);
        switch (what) {
            case 0: return machine.outputs;
            case 1: return machine.ending;
            case 2: return machine.ending == THROWN ? machine.thrown : 0;
            case 3: return machine.inputs;
            case 4: return machine.entered;
            case 11: return machine.told;
            default: return machine.variable[what - 5];
        }
    }

    public int output(int how, int a, int b, int seed, int blocks, int k) {
        if (!canRun(how, blocks) || k < 0) {
            return HIDDEN;
        }
        machine.begin(a, b, seed, blocks, k);
        goThrough(how);
        return k < machine.outputs ? machine.wanted : HIDDEN;
    }

    public long comesTo(int block) {
        return isBlock(block) ? blocks.leadingTo(block) : NONE;
    }

    public int far(int block, int other) {
        return isBlock(block) && isBlock(other) ? blocks.way(block, other) : NONE;
    }

    public int most(int what) {
        if (!loaded) {
            return HIDDEN;
        }
        switch (what) {
            case 0: return shape.mostLoops();
            case 1: return shape.tangled ? NONE : lines.deepest();
            case 2: return shape.tangled ? NONE : lines.ofKind(BREAK);
            case 3: return shape.tangled ? NONE : lines.ofKind(CONTINUE);
            case 4: return lifted.mostParts();
            case 5: return listing.highest();
            case 6: return lifted.fullest();
            case 7: return truths.howMany();
            default: return HIDDEN;
        }
    }

    private void adoptDraft() {
        listing.copy(draft);
        blocks.cut();
        shape.form();
        lifted.lift();
        truths.judge();
        liveness.flow();
        lines.size = 0;
        if (!shape.tangled) {
            lines.tellAll();
        }
        loaded = true;
    }

    private boolean isBlock(int block) {
        return loaded && block >= 0 && block < blocks.size;
    }

    private boolean isLine(int i) {
        return loaded && !shape.tangled && i >= 0 && i < lines.size;
    }

    private boolean canRun(int how, int limit) {
        if (!loaded || limit < 1 || limit > MOST_BLOCKS_RUN) {
            return false;
        }
        return how == 0 || how == 1 && !shape.tangled;
    }

    private void goThrough(int how) {
        if (how == 0) {
            machine.goThroughCode();
        } else {
            machine.goThroughLines();
        }
    }

    private static int oneIf(boolean holds) {
        return holds ? 1 : 0;
    }

    private static boolean isIn(long bits, int i) {
        return (bits >>> i & 1L) != 0;
    }

    private static int bytesIn(int word) {
        int found = 0;
        for (int shift = 24; shift >= 0; shift -= 8) {
            if ((word >>> shift & 255) != 0) {
                found++;
            }
        }
        return found;
    }

    private static boolean isInstruction(int sign, int number) {
        switch (sign) {
            case 'k': return number >= 0 && number <= 999;
            case 'l': case 's': return number >= 0 && number < VARIABLES;
            case 'g': case 'z': return number >= 0 && number < MOST_INSTRUCTIONS;
            default: return isBare(sign) && number == 0;
        }
    }

    /** Whether an instruction of this sign stands without a number or a letter. */
    private static boolean isBare(int sign) {
        switch (sign) {
            case '!': case 'n': case 'd': case 'p': case 'w': case 'i': case 'o': case 't': case 'r': return true;
            default: return isBinary(sign);
        }
    }

    private static boolean isBinary(int sign) {
        switch (sign) {
            case '+': case '-': case '*': case '/': case '%': case '<': case '=': return true;
            default: return false;
        }
    }

    private static boolean isUnary(int sign) {
        return sign == '!' || sign == 'n';
    }

    /** What an operator gives; of / and % the divisor is not 0. */
    private static int outcome(int sign, int lower, int upper) {
        switch (sign) {
            case '+': return lower + upper;
            case '-': return lower - upper;
            case '*': return lower * upper;
            case '/': return upper == 0 ? 0 : lower / upper;
            case '%': return upper == 0 ? 0 : lower % upper;
            case '<': return lower < upper ? 1 : 0;
            case '=': return lower == upper ? 1 : 0;
            case '!': return lower == 0 ? 1 : 0;
            default: return -lower;
        }
    }

    private static boolean dividesByZero(int sign, int upper) {
        return (sign == '/' || sign == '%') && upper == 0;
    }

    /** The bytes that were fed, and how they are read. */
    private static final class Tape {
        final byte[] bytes = new byte[MOST_BYTES];
        int length;
        /** Where reading stands; behind a failed reading: the fault. */
        int at;

        void append(int word) {
            for (int shift = 24; shift >= 0; shift -= 8) {
                int next = word >>> shift & 255;
                if (next != 0 && length < MOST_BYTES) {
                    bytes[length] = (byte) next;
                    length++;
                }
            }
        }

        boolean read(Listing into) {
            at = 0;
            into.size = 0;
            into.handlers = 0;
            skipBlanks();
            for (int i = 0; i <= MOST_INSTRUCTIONS && at < length && current() != 'h'; i++) {
                if (!readInstruction(into)) {
                    return false;
                }
                skipBlanks();
            }
            if (into.size == 0) {
                return false;
            }
            for (int h = 0; h <= MOST_HANDLERS && at < length; h++) {
                if (!readHandler(into)) {
                    return false;
                }
                skipBlanks();
            }
            return true;
        }

        private boolean readInstruction(Listing into) {
            int sign = current();
            if (into.size == MOST_INSTRUCTIONS) {
                return false;
            }
            int number = 0;
            if (isBare(sign)) {
                at++;
            } else if (sign == 'k') {
                number = readNumber(999);
            } else if (sign == 'g' || sign == 'z') {
                number = readNumber(MOST_INSTRUCTIONS - 1);
            } else if (sign == 'l' || sign == 's') {
                number = readLetter();
            } else {
                return false;
            }
            if (number == NONE) {
                return false;
            }
            into.sign[into.size] = sign;
            into.number[into.size] = number;
            into.size++;
            return true;
        }

        private boolean readHandler(Listing into) {
            if (current() != 'h' || into.handlers == MOST_HANDLERS) {
                return false;
            }
            int from = readNumber(MOST_INSTRUCTIONS);
            if (from == NONE || !isAtComma()) {
                return false;
            }
            int to = readNumber(MOST_INSTRUCTIONS);
            if (to == NONE || !isAtComma()) {
                return false;
            }
            int goal = readNumber(MOST_INSTRUCTIONS);
            if (goal == NONE) {
                return false;
            }
            into.from[into.handlers] = from;
            into.to[into.handlers] = to;
            into.goal[into.handlers] = goal;
            into.handlers++;
            return true;
        }

        /** The number behind the sign at which reading stands. */
        private int readNumber(int limit) {
            at++;
            skipBlanks();
            int value = NONE;
            while (at < length && current() >= '0' && current() <= '9') {
                int longer = Math.max(value, 0) * 10 + current() - '0';
                if (longer > limit) {
                    return NONE;
                }
                value = longer;
                at++;
            }
            return value;
        }

        private int readLetter() {
            at++;
            skipBlanks();
            if (at >= length || current() < 'a' || current() > 'f') {
                return NONE;
            }
            at++;
            return bytes[at - 1] - 'a';
        }

        private boolean isAtComma() {
            skipBlanks();
            return at < length && current() == ',';
        }

        private void skipBlanks() {
            while (at < length && current() == ' ') {
                at++;
            }
        }

        private int current() {
            return at < length ? bytes[at] & 255 : 0;
        }
    }

    /** Instructions and handlers, and how many are on the stack ahead of each instruction. */
    private static final class Listing {
        int size;
        int handlers;
        final int[] sign = new int[MOST_INSTRUCTIONS];
        final int[] number = new int[MOST_INSTRUCTIONS];
        /** NONE: it isn't come to. */
        final int[] depth = new int[MOST_INSTRUCTIONS];
        final int[] from = new int[MOST_HANDLERS];
        final int[] to = new int[MOST_HANDLERS];
        final int[] goal = new int[MOST_HANDLERS];

        void copy(Listing other) {
            size = other.size;
            handlers = other.handlers;
            System.arraycopy(other.sign, 0, sign, 0, MOST_INSTRUCTIONS);
            System.arraycopy(other.number, 0, number, 0, MOST_INSTRUCTIONS);
            System.arraycopy(other.depth, 0, depth, 0, MOST_INSTRUCTIONS);
            System.arraycopy(other.from, 0, from, 0, MOST_HANDLERS);
            System.arraycopy(other.to, 0, to, 0, MOST_HANDLERS);
            System.arraycopy(other.goal, 0, goal, 0, MOST_HANDLERS);
        }

        /** 0 if it is right, else -2 to -6. */
        int judge() {
            if (!leadsInside()) {
                return -2;
            }
            for (int i = 0; i < size; i++) {
                depth[i] = NONE;
            }
            depth[0] = 0;
            long gone = 0;
            for (int round = 0; round < size; round++) {
                int i = lowestOpen(gone);
                if (i == NONE) {
                    return 0;
                }
                gone |= 1L << i;
                int verdict = goOver(i);
                if (verdict != 0) {
                    return verdict;
                }
            }
            return 0;
        }

        private boolean leadsInside() {
            for (int i = 0; i < size; i++) {
                if (goesElsewhere(i) && number[i] >= size) {
                    return false;
                }
            }
            for (int h = 0; h < handlers; h++) {
                if (from[h] >= to[h] || to[h] > size || goal[h] >= size) {
                    return false;
                }
            }
            return true;
        }

        private int lowestOpen(long gone) {
            for (int i = 0; i < size; i++) {
                if (depth[i] != NONE && !isIn(gone, i)) {
                    return i;
                }
            }
            return NONE;
        }

        private int goOver(int i) {
            if (depth[i] < needs(sign[i])) {
                return -4;
            }
            int behind = depthBehind(i);
            if (behind > MOST_ON_STACK) {
                return -5;
            }
            if (goesOn(i)) {
                if (i + 1 >= size) {
                    return -3;
                }
                if (!arrive(i + 1, behind)) {
                    return -6;
                }
            }
            if (goesElsewhere(i) && !arrive(number[i], behind)) {
                return -6;
            }
            int handler = canThrow(i) ? handlerOf(i) : NONE;
            return handler == NONE || arrive(goal[handler], 1) ? 0 : -6;
        }

        private boolean arrive(int i, int height) {
            if (depth[i] == NONE) {
                depth[i] = height;
            }
            return depth[i] == height;
        }

        int depthBehind(int i) {
            return depth[i] - needs(sign[i]) + gives(sign[i]);
        }

        boolean goesOn(int i) {
            return sign[i] != 'g' && !ends(i);
        }

        boolean ends(int i) {
            return sign[i] == 't' || sign[i] == 'r';
        }

        boolean goesElsewhere(int i) {
            return sign[i] == 'g' || sign[i] == 'z';
        }

        /** Whether it is a z that goes one way or the other. */
        boolean chooses(int i) {
            return sign[i] == 'z' && number[i] != i + 1;
        }

        boolean canThrow(int i) {
            return sign[i] == '/' || sign[i] == '%' || sign[i] == 't';
        }

        int handlerOf(int i) {
            for (int h = 0; h < handlers; h++) {
                if (from[h] <= i && i < to[h]) {
                    return h;
                }
            }
            return NONE;
        }

        int highest() {
            int highest = 0;
            for (int i = 0; i < size; i++) {
                if (depth[i] != NONE) {
                    highest = Math.max(highest, Math.max(depth[i], depthBehind(i)));
                }
            }
            return highest;
        }

        private static int needs(int sign) {
            switch (sign) {
                case 's': case '!': case 'n': case 'd': case 'p': case 'o': case 'z': case 't': return 1;
                case 'w': return 2;
                default: return isBinary(sign) ? 2 : 0;
            }
        }

        private static int gives(int sign) {
            switch (sign) {
                case 'k': case 'l': case 'i': case '!': case 'n': return 1;
                case 'd': case 'w': return 2;
                default: return isBinary(sign) ? 1 : 0;
            }
        }
    }

    /** Blocks, and edges between them. */
    private static final class Blocks {
        private final Listing listing;
        int size;
        final int[] first = new int[MOST_INSTRUCTIONS];
        final int[] last = new int[MOST_INSTRUCTIONS];
        /** The block of an instruction, NONE if it isn't come to. */
        final int[] of = new int[MOST_INSTRUCTIONS];
        /** Where a block goes on (of z: if it isn't 0), the other way of a z, its handler's block; or NONE. */
        final int[] onward = new int[MOST_INSTRUCTIONS];
        final int[] otherwise = new int[MOST_INSTRUCTIONS];
        final int[] catcher = new int[MOST_INSTRUCTIONS];
        /** The blocks to which one's edges go, as bits. */
        final long[] nexts = new long[MOST_INSTRUCTIONS];
        int edges;
        final int[] firstEdge = new int[MOST_INSTRUCTIONS + 1];
        final int[] source = new int[MOST_EDGES];
        final int[] target = new int[MOST_EDGES];
        final boolean[] throwing = new boolean[MOST_EDGES];
        /** T names: the most on the stack at a begin or an end. */
        int names;
        private final boolean[] isCut = new boolean[MOST_INSTRUCTIONS + 1];

        Blocks(Listing listing) {
            this.listing = listing;
        }

        void cut() {
            markCuts();
            size = 0;
            names = 0;
            for (int i = 0; i < listing.size; i++) {
                of[i] = NONE;
                if (listing.depth[i] != NONE) {
                    if (size == 0 || isCut[i]) {
                        first[size] = i;
                        size++;
                    }
                    of[i] = size - 1;
                    last[size - 1] = i;
                }
            }
            edges = 0;
            for (int b = 0; b < size; b++) {
                join(b);
                int highest = Math.max(listing.depth[first[b]], listing.depthBehind(last[b]));
                names = Math.max(names, highest);
            }
            firstEdge[size] = edges;
        }

        private void markCuts() {
            for (int i = 0; i <= MOST_INSTRUCTIONS; i++) {
                isCut[i] = false;
            }
            for (int i = 0; i < listing.size; i++) {
                if (listing.depth[i] == NONE) {
                    continue;
                }
                if (listing.goesElsewhere(i)) {
                    isCut[listing.number[i]] = true;
                    isCut[i + 1] = true;
                }
                if (listing.ends(i)) {
                    isCut[i + 1] = true;
                }
            }
            for (int h = 0; h < listing.handlers; h++) {
                isCut[listing.from[h]] = true;
                isCut[listing.to[h]] = true;
                isCut[listing.goal[h]] = true;
            }
        }

        private void join(int b) {
            int end = last[b];
            firstEdge[b] = edges;
            nexts[b] = 0;
            onward[b] = NONE;
            otherwise[b] = NONE;
            if (listing.goesOn(end)) {
                onward[b] = of[end + 1];
                lead(b, of[end + 1], false);
            }
            if (listing.goesElsewhere(end)) {
                int goal = of[listing.number[end]];
                if (onward[b] == NONE) {
                    onward[b] = goal;
                } else if (goal != onward[b]) {
                    otherwise[b] = goal;
                }
                lead(b, goal, false);
            }
            catcher[b] = catcherOf(b);
            if (catcher[b] != NONE) {
                lead(b, catcher[b], true);
            }
        }

        private int catcherOf(int b) {
            for (int i = first[b]; i <= last[b]; i++) {
                int handler = listing.canThrow(i) ? listing.handlerOf(i) : NONE;
                if (handler != NONE) {
                    return of[listing.goal[handler]];
                }
            }
            return NONE;
        }

        private void lead(int b, int goal, boolean asThrown) {
            if (goal == NONE) {
                return;
            }
            if (isIn(nexts[b], goal)) {
                int known = edgeTo(b, goal);
                throwing[known] = throwing[known] || asThrown;
                return;
            }
            nexts[b] |= 1L << goal;
            source[edges] = b;
            target[edges] = goal;
            throwing[edges] = asThrown;
            edges++;
        }

        /** The edge from a block to one of its next ones. */
        int edgeTo(int b, int goal) {
            int found = firstEdge[b];
            for (int e = firstEdge[b]; e < edges && source[e] == b; e++) {
                if (target[e] == goal) {
                    found = e;
                }
            }
            return found;
        }

        long leadingTo(int block) {
            long found = 0;
            long goals = 0;
            for (int round = 0; round <= size && goals != (found | 1L << block); round++) {
                goals = found | 1L << block;
                for (int b = 0; b < size; b++) {
                    if ((nexts[b] & goals) != 0) {
                        found |= 1L << b;
                    }
                }
            }
            return found;
        }

        int way(int block, int other) {
            long come = 1L << block;
            for (int steps = 0; steps <= size; steps++) {
                if (isIn(come, other)) {
                    return steps;
                }
                long further = come;
                for (int b = 0; b < size; b++) {
                    if (isIn(come, b)) {
                        further |= nexts[b];
                    }
                }
                come = further;
            }
            return NONE;
        }
    }

    /** Which edges are jumps; and by the edges kept: order, who dominates whom, loops, merges. */
    private static final class Shape {
        private final Blocks blocks;
        boolean tangled;
        /** Whether the code is reduced with all edges. */
        boolean reduced;
        int jumps;
        final boolean[] jump = new boolean[MOST_EDGES];
        final boolean[] back = new boolean[MOST_EDGES];
        final int[] order = new int[MOST_INSTRUCTIONS];
        final int[] place = new int[MOST_INSTRUCTIONS];
        final long[] dominators = new long[MOST_INSTRUCTIONS];
        final int[] above = new int[MOST_INSTRUCTIONS];
        long loops;
        /** The blocks of the loop of a block, 0 if it is none. */
        final long[] members = new long[MOST_INSTRUCTIONS];
        long merges;
        /** The blocks from which kept edges come to one, as bits. */
        private final long[] before = new long[MOST_INSTRUCTIONS];
        private final int[] open = new int[MOST_INSTRUCTIONS];
        private final int[] nextEdge = new int[MOST_INSTRUCTIONS];
        private final int[] candidate = new int[MOST_EDGES];
        private int candidates;

        Shape(Blocks blocks) {
            this.blocks = blocks;
        }

        void form() {
            for (int e = 0; e < MOST_EDGES; e++) {
                jump[e] = false;
            }
            jumps = 0;
            reduced = isReducedNow();
            tangled = false;
            if (!reduced) {
                findCandidates();
                if (!oneJumpIsEnough() && !twoJumpsAreEnough()) {
                    tangled = true;
                    isReducedNow();
                }
            }
            for (int e = 0; e < blocks.edges; e++) {
                back[e] = isBack(e);
            }
            findAbove();
            findLoops();
            findMerges();
        }

        /** Goes through by the edges that are no jumps; whether all blocks are come to and no other round is left. */
        private boolean isReducedNow() {
            if (!allAreComeTo()) {
                return false;
            }
            findDominators();
            for (int e = 0; e < blocks.edges; e++) {
                boolean returns = place[blocks.target[e]] <= place[blocks.source[e]];
                if (!jump[e] && returns && !isBack(e)) {
                    return false;
                }
            }
            return true;
        }

        private boolean allAreComeTo() {
            long seen = 1L;
            int left = 0;
            int height = 1;
            open[0] = 0;
            nextEdge[0] = blocks.firstEdge[0];
            for (int step = 0; step < MOST_STEPS && height > 0; step++) {
                int b = open[height - 1];
                int e = nextEdge[height - 1];
                if (e == blocks.firstEdge[b + 1]) {
                    height--;
                    left++;
                    order[blocks.size - left] = b;
                    place[b] = blocks.size - left;
                } else {
                    nextEdge[height - 1]++;
                    int goal = blocks.target[e];
                    if (!jump[e] && !isIn(seen, goal)) {
                        seen |= 1L << goal;
                        open[height] = goal;
                        nextEdge[height] = blocks.firstEdge[goal];
                        height++;
                    }
                }
            }
            return left == blocks.size;
        }

        private void findDominators() {
            for (int b = 0; b < blocks.size; b++) {
                before[b] = 0;
                dominators[b] = (1L << blocks.size) - 1;
            }
            for (int e = 0; e < blocks.edges; e++) {
                if (!jump[e]) {
                    before[blocks.target[e]] |= 1L << blocks.source[e];
                }
            }
            dominators[0] = 1L;
            boolean changed = true;
            for (int round = 0; round < MOST_STEPS && changed; round++) {
                changed = false;
                for (int p = 1; p < blocks.size; p++) {
                    int b = order[p];
                    long shared = sharedBefore(b) | 1L << b;
                    changed = changed || shared != dominators[b];
                    dominators[b] = shared;
                }
            }
        }

        private long sharedBefore(int b) {
            long shared = (1L << blocks.size) - 1;
            long open = before[b];
            for (int left = Long.bitCount(open); left > 0; left--) {
                shared &= dominators[Long.numberOfTrailingZeros(open)];
                open &= open - 1;
            }
            return shared;
        }

        private boolean isBack(int e) {
            return isIn(dominators[blocks.source[e]], blocks.target[e]);
        }

        /** A back edge never helps as a jump, nor can the only edge to a block be one: they aren't tried. */
        private void findCandidates() {
            candidates = 0;
            for (int e = 0; e < blocks.edges; e++) {
                boolean isOnly = Long.bitCount(before[blocks.target[e]]) < 2;
                if (!blocks.throwing[e] && !isBack(e) && !isOnly) {
                    candidate[candidates] = e;
                    candidates++;
                }
            }
        }

        private boolean oneJumpIsEnough() {
            for (int c = 0; c < candidates; c++) {
                jump[candidate[c]] = true;
                if (isReducedNow()) {
                    jumps = 1;
                    return true;
                }
                jump[candidate[c]] = false;
            }
            return false;
        }

        private boolean twoJumpsAreEnough() {
            for (int c = 0; c < candidates; c++) {
                jump[candidate[c]] = true;
                for (int d = c + 1; d < candidates; d++) {
                    jump[candidate[d]] = true;
                    if (isReducedNow()) {
                        jumps = 2;
                        return true;
                    }
                    jump[candidate[d]] = false;
                }
                jump[candidate[c]] = false;
            }
            return false;
        }

        private void findAbove() {
            for (int b = 0; b < blocks.size; b++) {
                above[b] = NONE;
                int rank = Long.bitCount(dominators[b]) - 1;
                for (int a = 0; a < blocks.size; a++) {
                    if (a != b && isIn(dominators[b], a) && Long.bitCount(dominators[a]) == rank) {
                        above[b] = a;
                    }
                }
            }
        }

        private void findLoops() {
            loops = 0;
            for (int b = 0; b < blocks.size; b++) {
                members[b] = 0;
            }
            for (int e = 0; e < blocks.edges; e++) {
                if (back[e] && !jump[e]) {
                    int head = blocks.target[e];
                    loops |= 1L << head;
                    members[head] |= comingBack(head, blocks.source[e]);
                }
            }
        }

        private long comingBack(int head, int source) {
            long found = 1L << head | 1L << source;
            long known = 0;
            for (int round = 0; round <= blocks.size && known != found; round++) {
                known = found;
                for (int b = 0; b < blocks.size; b++) {
                    if (b != head && isIn(found, b)) {
                        found |= before[b];
                    }
                }
            }
            return found;
        }

        private void findMerges() {
            long come = 0;
            merges = 0;
            for (int e = 0; e < blocks.edges; e++) {
                long goal = 1L << blocks.target[e];
                if (blocks.throwing[e]) {
                    merges |= goal;
                }
                if (!jump[e] && !back[e]) {
                    merges |= come & goal;
                    come |= goal;
                }
            }
        }

        int innermost(int block) {
            int found = NONE;
            for (int b = 0; b < blocks.size; b++) {
                boolean isRound = isIn(members[b], block);
                if (isRound && (found == NONE || Long.bitCount(members[b]) < Long.bitCount(members[found]))) {
                    found = b;
                }
            }
            return found;
        }

        int loopsRound(int block) {
            int found = 0;
            for (int b = 0; b < blocks.size; b++) {
                if (isIn(members[b], block)) {
                    found++;
                }
            }
            return found;
        }

        int mostLoops() {
            int highest = 0;
            for (int b = 0; b < blocks.size; b++) {
                highest = Math.max(highest, loopsRound(b));
            }
            return highest;
        }
    }

    /** Expressions, each kept once; those within one stand ahead of it. */
    private static final class Pool {
        static final int EFFECTS = 1 << 12;
        int size;
        /** k number, l variable, T, X, i input, or the sign of an operator. */
        final int[] sign = new int[MOST_EXPRESSIONS];
        /** The number or which name; of an operator the lower expression. */
        final int[] left = new int[MOST_EXPRESSIONS];
        final int[] right = new int[MOST_EXPRESSIONS];
        /** How many expressions it is, with all within. */
        final int[] parts = new int[MOST_EXPRESSIONS];
        /** Bits 0 to 5 variables within, 6 to 11 T within, 12 effects. */
        final int[] traits = new int[MOST_EXPRESSIONS];

        static int slotBit(int slot) {
            return 1 << VARIABLES + slot;
        }

        int make(int sign, int left, int right) {
            for (int e = 0; e < size; e++) {
                if (this.sign[e] == sign && this.left[e] == left && this.right[e] == right) {
                    return e;
                }
            }
            if (size == MOST_EXPRESSIONS) {
                return 0;
            }
            this.sign[size] = sign;
            this.left[size] = left;
            this.right[size] = right;
            parts[size] = 1;
            traits[size] = sign == 'i' || sign == '/' || sign == '%' ? EFFECTS : 0;
            switch (sign) {
                case 'k': case 'X': case 'i': break;
                case 'l': traits[size] = 1 << left; break;
                case 'T': traits[size] = 1 << VARIABLES + left; break;
                case '!': case 'n':
                    parts[size] += parts[left];
                    traits[size] = traits[left];
                    break;
                default:
                    parts[size] += parts[left] + parts[right];
                    traits[size] |= traits[left] | traits[right];
            }
            size++;
            return size - 1;
        }

        boolean hasEffects(int e) {
            return (traits[e] & EFFECTS) != 0;
        }

        boolean isName(int e) {
            return sign[e] == 'l' || sign[e] == 'T' || sign[e] == 'X';
        }

        /** The expression with another one in each place of a T. */
        private int replace(int e, int slot, int by, int level) {
            if (level > DEEPEST || (traits[e] & slotBit(slot)) == 0) {
                return e;
            }
            if (isBinary(sign[e])) {
                int lower = replace(left[e], slot, by, level + 1);
                int upper = replace(right[e], slot, by, level + 1);
                return make(sign[e], lower, upper);
            }
            return isUnary(sign[e]) ? make(sign[e], replace(left[e], slot, by, level + 1), 0) : by;
        }
    }

    /** The statements of all blocks in a row, and what the z's look at. */
    private static final class Lifted {
        private final Listing listing;
        private final Blocks blocks;
        private final Pool pool;
        int size;
        final int[] kind = new int[MOST_STATEMENTS];
        final int[] which = new int[MOST_STATEMENTS];
        final int[] expression = new int[MOST_STATEMENTS];
        final int[] first = new int[MOST_INSTRUCTIONS + 1];
        /** The expression of a block's z, NONE if it has none. */
        final int[] test = new int[MOST_INSTRUCTIONS];
        /** How many X there are. */
        int fresh;
        int unlike;
        private final int[] stack = new int[MOST_ON_STACK + 2];
        private int height;
        private final boolean[] isTold = new boolean[MOST_EXPRESSIONS];

        Lifted(Listing listing, Blocks blocks, Pool pool) {
            this.listing = listing;
            this.blocks = blocks;
            this.pool = pool;
        }

        void lift() {
            size = 0;
            fresh = 0;
            pool.size = 0;
            for (int b = 0; b < blocks.size; b++) {
                first[b] = size;
                test[b] = NONE;
                height = 0;
                for (int k = 0; k < listing.depth[blocks.first[b]]; k++) {
                    push(pool.make('T', k, 0));
                }
                for (int i = blocks.first[b]; i <= blocks.last[b]; i++) {
                    step(b, i);
                }
                if (!listing.ends(blocks.last[b])) {
                    handOver(b);
                }
            }
            first[blocks.size] = size;
            countUnlike();
        }

        private void step(int b, int i) {
            int sign = listing.sign[i];
            int number = listing.number[i];
            switch (sign) {
                case 'k': case 'l': case 'i': push(pool.make(sign, number, 0)); break;
                case 's': state(SET_VARIABLE, number, pop()); break;
                case 'o': state(OUT, NONE, pop()); break;
                case 't': state(THROW, NONE, pop()); break;
                case 'r': state(RETURN, NONE, NONE); break;
                case 'p': drop(pop()); break;
                case 'd': twice(); break;
                case 'w': exchange(); break;
                case 'g': break;
                case 'z':
                    if (listing.chooses(i)) {
                        test[b] = pop();
                    } else {
                        drop(pop());
                    }
                    break;
                default: operate(sign);
            }
        }

        private void operate(int sign) {
            int upper = pop();
            if (isBinary(sign)) {
                int lower = pop();
                push(pool.make(sign, lower, upper));
            } else {
                push(pool.make(sign, upper, 0));
            }
        }

        private void state(int kind, int which, int e) {
            int stored = kind == SET_VARIABLE ? 1 << which : 0;
            spill(Pool.EFFECTS | stored);
            add(kind, which, e);
        }

        /** Puts those on the stack into fresh X that have one of these traits. */
        private void spill(int traits) {
            for (int k = 0; k < height; k++) {
                if ((pool.traits[stack[k]] & traits) != 0) {
                    stack[k] = putAside(stack[k]);
                }
            }
        }

        private int putAside(int e) {
            add(SET_X, fresh, e);
            int x = pool.make('X', fresh, 0);
            if (fresh < MOST_X) {
                fresh++;
            }
            return x;
        }

        private void add(int newKind, int newWhich, int e) {
            if (size < MOST_STATEMENTS) {
                kind[size] = newKind;
                which[size] = newWhich;
                expression[size] = e;
                size++;
            }
        }

        private void drop(int e) {
            if (pool.hasEffects(e)) {
                spill(Pool.EFFECTS);
                add(ALONE, NONE, e);
            }
        }

        private void twice() {
            int top = pop();
            if (pool.sign[top] != 'k' && !pool.isName(top)) {
                spill(Pool.EFFECTS);
                top = putAside(top);
            }
            push(top);
            push(top);
        }

        private void exchange() {
            int upper = pop();
            if (height > 0 && pool.hasEffects(upper) && pool.hasEffects(stack[height - 1])) {
                spill(Pool.EFFECTS);
            }
            int lower = pop();
            push(upper);
            push(lower);
        }

        /** What is on the stack at the end goes to the T, for the blocks behind. */
        private void handOver(int b) {
            for (int k = 0; k < height; k++) {
                int slot = pool.make('T', k, 0);
                if (stack[k] != slot) {
                    if (isNeededAbove(b, k)) {
                        replaceAbove(b, k, putAside(slot));
                    }
                    add(SET_T, k, stack[k]);
                }
            }
            if (test[b] != NONE && pool.hasEffects(test[b])) {
                test[b] = putAside(test[b]);
            }
        }

        private boolean isNeededAbove(int b, int slot) {
            int traits = test[b] == NONE ? 0 : pool.traits[test[b]];
            for (int k = slot + 1; k < height; k++) {
                traits |= pool.traits[stack[k]];
            }
            return (traits & Pool.slotBit(slot)) != 0;
        }

        private void replaceAbove(int b, int slot, int by) {
            for (int k = slot + 1; k < height; k++) {
                stack[k] = pool.replace(stack[k], slot, by, 0);
            }
            if (test[b] != NONE) {
                test[b] = pool.replace(test[b], slot, by, 0);
            }
        }

        private void push(int e) {
            if (height < stack.length) {
                stack[height] = e;
                height++;
            }
        }

        private int pop() {
            if (height > 0) {
                height--;
            }
            return stack[height];
        }

        private void countUnlike() {
            for (int e = 0; e < pool.size; e++) {
                isTold[e] = false;
            }
            for (int s = 0; s < size; s++) {
                if (expression[s] != NONE) {
                    isTold[expression[s]] = true;
                }
            }
            for (int b = 0; b < blocks.size; b++) {
                if (test[b] != NONE) {
                    isTold[test[b]] = true;
                }
            }
            unlike = 0;
            for (int e = pool.size - 1; e >= 0; e--) {
                if (isTold[e] && !pool.isName(e)) {
                    unlike++;
                    tellWithin(e);
                }
            }
        }

        private void tellWithin(int e) {
            boolean isPair = isBinary(pool.sign[e]);
            if (isPair || isUnary(pool.sign[e])) {
                isTold[pool.left[e]] = true;
            }
            if (isPair) {
                isTold[pool.right[e]] = true;
            }
        }

        int mostParts() {
            int highest = 0;
            for (int s = 0; s < size; s++) {
                if (expression[s] != NONE) {
                    highest = Math.max(highest, pool.parts[expression[s]]);
                }
            }
            return highest;
        }

        int fullest() {
            int found = 0;
            for (int b = 1; b < blocks.size; b++) {
                if (first[b + 1] - first[b] > first[found + 1] - first[found]) {
                    found = b;
                }
            }
            return found;
        }
    }

    /** Which names hold nothing but 0 and 1. */
    private static final class Truths {
        private final Blocks blocks;
        private final Pool pool;
        private final Lifted lifted;
        final boolean[] variable = new boolean[VARIABLES];
        final boolean[] slot = new boolean[MOST_ON_STACK];
        final boolean[] fresh = new boolean[MOST_X];

        Truths(Blocks blocks, Pool pool, Lifted lifted) {
            this.blocks = blocks;
            this.pool = pool;
            this.lifted = lifted;
        }

        void judge() {
            assumeAll();
            boolean changed = true;
            for (int round = 0; round < MOST_STEPS && changed; round++) {
                changed = false;
                for (int s = 0; s < lifted.size; s++) {
                    boolean isStore = lifted.kind[s] <= SET_X;
                    if (isStore && !holds(lifted.expression[s]) && isTaken(s)) {
                        deny(s);
                        changed = true;
                    }
                }
            }
        }

        private void assumeAll() {
            for (int v = 0; v < VARIABLES; v++) {
                variable[v] = v > 1;
            }
            for (int k = 0; k < MOST_ON_STACK; k++) {
                slot[k] = true;
            }
            for (int x = 0; x < MOST_X; x++) {
                fresh[x] = true;
            }
            for (int e = 0; e < blocks.edges; e++) {
                if (blocks.throwing[e]) {
                    slot[0] = false;
                }
            }
        }

        private boolean holds(int e) {
            int number = pool.left[e];
            switch (pool.sign[e]) {
                case 'k': return number <= 1;
                case '<': case '=': case '!': return true;
                case 'l': return variable[number];
                case 'T': return slot[number];
                case 'X': return number < MOST_X && fresh[number];
                default: return false;
            }
        }

        /** Whether the name to which a statement stores is still taken for a truth. */
        private boolean isTaken(int s) {
            int which = lifted.which[s];
            switch (lifted.kind[s]) {
                case SET_VARIABLE: return variable[which];
                case SET_T: return slot[which];
                default: return which < MOST_X && fresh[which];
            }
        }

        private void deny(int s) {
            int which = lifted.which[s];
            switch (lifted.kind[s]) {
                case SET_VARIABLE: variable[which] = false; break;
                case SET_T: slot[which] = false; break;
                default: fresh[which] = false;
            }
        }

        int howMany() {
            int found = 0;
            for (int v = 0; v < VARIABLES; v++) {
                found += oneIf(variable[v]);
            }
            for (int k = 0; k < blocks.names; k++) {
                found += oneIf(slot[k]);
            }
            for (int x = 0; x < lifted.fresh; x++) {
                found += oneIf(fresh[x]);
            }
            return found;
        }
    }

    /** Which variables are needed later on, as bits; and stores that nobody needs. */
    private static final class Liveness {
        private final Listing listing;
        private final Blocks blocks;
        final int[] begin = new int[MOST_INSTRUCTIONS];
        final int[] behind = new int[MOST_INSTRUCTIONS];
        long dead;

        Liveness(Listing listing, Blocks blocks) {
            this.listing = listing;
            this.blocks = blocks;
        }

        void flow() {
            for (int b = 0; b < blocks.size; b++) {
                begin[b] = 0;
            }
            boolean changed = true;
            for (int round = 0; round < MOST_STEPS && changed; round++) {
                changed = false;
                dead = 0;
                for (int b = blocks.size - 1; b >= 0; b--) {
                    int known = begin[b];
                    flowThrough(b);
                    changed = changed || begin[b] != known;
                }
            }
        }

        private void flowThrough(int b) {
            behind[b] = 0;
            for (int e = blocks.firstEdge[b]; e < blocks.firstEdge[b + 1]; e++) {
                behind[b] |= begin[blocks.target[e]];
            }
            int held = blocks.catcher[b] == NONE ? 0 : begin[blocks.catcher[b]];
            int live = behind[b];
            for (int i = blocks.last[b]; i >= blocks.first[b]; i--) {
                int bit = 1 << listing.number[i];
                if (listing.sign[i] == 'l') {
                    live |= bit;
                } else if (listing.sign[i] == 's') {
                    if ((live & bit) == 0) {
                        dead |= 1L << i;
                    }
                    live = live & ~bit | held;
                }
            }
            begin[b] = live | held;
        }
    }

    /** The lines, and where each of them leads. */
    private static final class Lines {
        private final Blocks blocks;
        private final Shape shape;
        private final Lifted lifted;
        int size;
        final int[] kind = new int[MOST_LINES];
        final int[] block = new int[MOST_LINES];
        final int[] depth = new int[MOST_LINES];
        /** Of a statement: which; of if: its else or }; of else: its }; of }: the kind of what it ends. */
        final int[] link = new int[MOST_LINES];
        /** Where a block's "B:", "loop B{" and the } of "block B{" stand. */
        final int[] label = new int[MOST_INSTRUCTIONS];
        final int[] loopStart = new int[MOST_INSTRUCTIONS];
        final int[] blockEnd = new int[MOST_INSTRUCTIONS];
        /** The lines whose { is open while they are matched. */
        private final int[] openers = new int[3 * MOST_INSTRUCTIONS];
        private int nest;

        Lines(Blocks blocks, Shape shape, Lifted lifted) {
            this.blocks = blocks;
            this.shape = shape;
            this.lifted = lifted;
        }

        void tellAll() {
            size = 0;
            nest = 0;
            tell(0, 0);
            match();
            leaveOut();
            close();
            match();
        }

        private void tell(int b, int level) {
            if (level > DEEPEST) {
                return;
            }
            boolean isLoop = isIn(shape.loops, b);
            if (isLoop) {
                openLine(LOOP, b);
            }
            for (int p = blocks.size - 1; p >= 0; p--) {
                if (isMergeUnder(shape.order[p], b)) {
                    openLine(BLOCK, shape.order[p]);
                }
            }
            tellStatements(b);
            tellEnd(b, level);
            for (int p = 0; p < blocks.size; p++) {
                if (isMergeUnder(shape.order[p], b)) {
                    closeLine(shape.order[p]);
                    tell(shape.order[p], level + 1);
                }
            }
            if (isLoop) {
                closeLine(b);
            }
        }

        private boolean isMergeUnder(int m, int b) {
            return isIn(shape.merges, m) && shape.above[m] == b;
        }

        private void tellStatements(int b) {
            add(LABEL, b, NONE);
            boolean isTried = blocks.catcher[b] != NONE;
            if (isTried) {
                openLine(TRY, b);
            }
            for (int s = lifted.first[b]; s < lifted.first[b + 1]; s++) {
                add(STATEMENT, b, s);
            }
            if (isTried) {
                nest--;
                add(CATCH, blocks.catcher[b], NONE);
            }
        }

        private void tellEnd(int b, int level) {
            int other = blocks.otherwise[b];
            if (other == NONE) {
                goOn(b, blocks.onward[b], level);
                return;
            }
            openLine(IF, b);
            goOn(b, blocks.onward[b], level);
            nest--;
            openLine(ELSE, b);
            goOn(b, other, level);
            closeLine(b);
        }

        private void goOn(int b, int goal, int level) {
            if (goal == NONE) {
                return;
            }
            int e = blocks.edgeTo(b, goal);
            if (shape.jump[e]) {
                add(GOTO, goal, NONE);
            } else if (shape.back[e]) {
                add(CONTINUE, goal, NONE);
            } else if (isIn(shape.merges, goal)) {
                add(BREAK, goal, NONE);
            } else {
                tell(goal, level + 1);
            }
        }

        private void openLine(int newKind, int newBlock) {
            add(newKind, newBlock, NONE);
            nest++;
        }

        private void closeLine(int ended) {
            nest--;
            add(CLOSE, ended, NONE);
        }

        private void add(int newKind, int newBlock, int newLink) {
            if (size < MOST_LINES) {
                kind[size] = newKind;
                block[size] = newBlock;
                depth[size] = nest;
                link[size] = newLink;
                size++;
            }
        }

        /** Finds for each { its }, and where labels, loops and ends of blocks stand. */
        private void match() {
            int open = 0;
            for (int i = 0; i < size; i++) {
                switch (kind[i]) {
                    case LOOP: case BLOCK: case IF: case TRY:
                        if (open < openers.length) {
                            openers[open] = i;
                            open++;
                        }
                        break;
                    case ELSE:
                        if (open > 0) {
                            link[openers[open - 1]] = i;
                            openers[open - 1] = i;
                        }
                        break;
                    case CLOSE: case CATCH:
                        if (open > 0) {
                            open--;
                            link[openers[open]] = i;
                            link[i] = kind[openers[open]];
                        }
                        break;
                    default:
                }
                mark(i);
            }
        }

        private void mark(int i) {
            if (kind[i] == LABEL) {
                label[block[i]] = i;
            } else if (kind[i] == LOOP) {
                loopStart[block[i]] = i;
            } else if (kind[i] == CLOSE && link[i] == BLOCK) {
                blockEnd[block[i]] = i;
            }
        }

        private void leaveOut() {
            for (int i = 0; i < size; i++) {
                if (kind[i] == BREAK && endsAnyway(i)) {
                    kind[i] = LEFT_OUT;
                }
            }
            for (int i = 0; i + 1 < size; i++) {
                if (kind[i] == ELSE && kind[i + 1] == LEFT_OUT && link[i] == i + 2) {
                    kind[i] = LEFT_OUT;
                }
            }
        }

        /** Whether one comes to the end of the block of this break without it. */
        private boolean endsAnyway(int i) {
            int at = i + 1;
            for (int step = 0; step < size && at < size; step++) {
                if (kind[at] == ELSE) {
                    at = link[at] + 1;
                } else if (kind[at] != CLOSE) {
                    return false;
                } else if (link[at] == BLOCK && block[at] == block[i]) {
                    return true;
                } else {
                    at++;
                }
            }
            return false;
        }

        /** Closes the gaps of lines that are left out. */
        private void close() {
            int kept = 0;
            for (int i = 0; i < size; i++) {
                if (kind[i] != LEFT_OUT) {
                    kind[kept] = kind[i];
                    block[kept] = block[i];
                    depth[kept] = depth[i];
                    link[kept] = link[i];
                    kept++;
                }
            }
            size = kept;
        }

        /** Where it goes on behind something thrown in a block that has a handler. */
        int whereCaught(int b) {
            int catcher = blocks.catcher[b];
            boolean isBack = shape.back[blocks.edgeTo(b, catcher)];
            return isBack ? loopStart[catcher] : blockEnd[catcher] + 1;
        }

        int deepest() {
            int highest = 0;
            for (int i = 0; i < size; i++) {
                highest = Math.max(highest, depth[i]);
            }
            return highest;
        }

        int ofKind(int wanted) {
            int found = 0;
            for (int i = 0; i < size; i++) {
                if (kind[i] == wanted) {
                    found++;
                }
            }
            return found;
        }
    }

    /** Runs the code, or the lines. */
    private static final class Machine {
        private final Listing listing;
        private final Blocks blocks;
        private final Pool pool;
        private final Lifted lifted;
        private final Lines lines;
        final int[] variable = new int[VARIABLES];
        /** The stack, when code is run; the T, when lines are. */
        private final int[] slot = new int[MOST_ON_STACK + 2];
        private final int[] fresh = new int[MOST_X + 1];
        private int height;
        private int seed;
        private int limit;
        private boolean isThrown;
        int thrown;
        int ending;
        int entered;
        int inputs;
        int outputs;
        /** The outputs told one by the other. */
        int told;
        /** Which output is asked for, and what it was. */
        private int asked;
        int wanted;

        Machine(Listing listing, Blocks blocks, Pool pool, Lifted lifted, Lines lines) {
            this.listing = listing;
            this.blocks = blocks;
            this.pool = pool;
            this.lifted = lifted;
            this.lines = lines;
        }

        void begin(int a, int b, int newSeed, int newLimit, int newAsked) {
            for (int v = 0; v < VARIABLES; v++) {
                variable[v] = 0;
            }
            variable[0] = a;
            variable[1] = b;
            seed = newSeed;
            limit = newLimit;
            asked = newAsked;
            height = 0;
            isThrown = false;
            thrown = 0;
            ending = RETURNED;
            entered = 0;
            inputs = 0;
            outputs = 0;
            told = 0;
            wanted = 0;
        }

        void goThroughCode() {
            int at = 0;
            for (int step = 0; step < MOST_STEPS && at != NONE; step++) {
                int b = blocks.of[at];
                boolean isEntry = b != NONE && blocks.first[b] == at;
                if (isEntry && !enter()) {
                    return;
                }
                at = obey(at);
            }
        }

        /** Does one instruction; the next one, or NONE at the end. */
        private int obey(int i) {
            int sign = listing.sign[i];
            int number = listing.number[i];
            switch (sign) {
                case 'k': push(number); break;
                case 'l': push(variable[number]); break;
                case 's': variable[number] = pop(); break;
                case 'i': push(draw()); break;
                case 'o': tellOut(pop()); break;
                case 'p': pop(); break;
                case 'd': case 'w': shuffle(sign); break;
                case 'g': return number;
                case 'z':
                    if (pop() == 0) {
                        return number;
                    }
                    break;
                case 't': return throwFrom(i, pop());
                case 'r': return NONE;
                default:
                    operate(sign);
                    if (isThrown) {
                        return throwFrom(i, DIVIDED_BY_ZERO);
                    }
            }
            return i + 1 < listing.size ? i + 1 : NONE;
        }

        private void shuffle(int sign) {
            int upper = pop();
            int lower = sign == 'w' ? pop() : upper;
            push(upper);
            push(lower);
        }

        private void operate(int sign) {
            int upper = pop();
            if (isBinary(sign)) {
                int lower = pop();
                isThrown = dividesByZero(sign, upper);
                push(outcome(sign, lower, upper));
            } else {
                push(outcome(sign, upper, 0));
            }
        }

        private int throwFrom(int i, int value) {
            int handler = listing.handlerOf(i);
            if (handler == NONE) {
                throwOut(value);
                return NONE;
            }
            isThrown = false;
            height = 0;
            push(value);
            return listing.goal[handler];
        }

        void goThroughLines() {
            int at = 0;
            for (int step = 0; step < MOST_STEPS && at >= 0 && at < lines.size; step++) {
                if (lines.kind[at] == LABEL && !enter()) {
                    return;
                }
                at = follow(at);
            }
        }

        /** Does one line; the next one, or NONE at the end. */
        private int follow(int i) {
            int b = lines.block[i];
            switch (lines.kind[i]) {
                case STATEMENT: return perform(lines.link[i], b, i);
                case IF: return value(lifted.test[b], 0) != 0 ? i + 1 : lines.link[i] + 1;
                case ELSE: return lines.link[i] + 1;
                case BREAK: return lines.blockEnd[b] + 1;
                case CONTINUE: return lines.loopStart[b];
                case GOTO: return lines.label[b];
                default: return i + 1;
            }
        }

        private int perform(int s, int b, int i) {
            int kind = lifted.kind[s];
            if (kind == RETURN) {
                return NONE;
            }
            int result = value(lifted.expression[s], 0);
            if (isThrown || kind == THROW) {
                return catchIn(b, isThrown ? DIVIDED_BY_ZERO : result);
            }
            int which = lifted.which[s];
            switch (kind) {
                case SET_VARIABLE: variable[which] = result; break;
                case SET_T: slot[which] = result; break;
                case SET_X: fresh[which] = result; break;
                case OUT: tellOut(result); break;
                default:
            }
            return i + 1;
        }

        private int catchIn(int b, int thrownValue) {
            if (blocks.catcher[b] == NONE) {
                throwOut(thrownValue);
                return NONE;
            }
            isThrown = false;
            slot[0] = thrownValue;
            return lines.whereCaught(b);
        }

        private int value(int e, int level) {
            if (e == NONE || level > DEEPEST || isThrown) {
                return 0;
            }
            int sign = pool.sign[e];
            int left = pool.left[e];
            switch (sign) {
                case 'k': return left;
                case 'l': return variable[left];
                case 'T': return slot[left];
                case 'X': return fresh[left];
                case 'i': return draw();
                default:
            }
            int lower = value(left, level + 1);
            int upper = isBinary(sign) ? value(pool.right[e], level + 1) : 0;
            isThrown = isThrown || dividesByZero(sign, upper);
            return isThrown ? 0 : outcome(sign, lower, upper);
        }

        private boolean enter() {
            if (entered == limit) {
                ending = STOPPED;
                return false;
            }
            entered++;
            return true;
        }

        private int draw() {
            seed = seed * 1103515245 + 12345;
            inputs++;
            return (seed >>> 16 & 32767) % 5;
        }

        private void tellOut(int value) {
            if (outputs == asked) {
                wanted = value;
            }
            outputs++;
            told = 31 * told + value;
        }

        private void throwOut(int value) {
            ending = THROWN;
            thrown = value;
        }

        private void push(int value) {
            if (height < slot.length) {
                slot[height] = value;
                height++;
            }
        }

        private int pop() {
            if (height > 0) {
                height--;
            }
            return slot[height];
        }
    }

    /** Writes lines and expressions out, sign by sign. */
    private static final class Pen {
        private final Pool pool;
        private final Lifted lifted;
        private final Lines lines;
        private final int[] signs = new int[MOST_SIGNS];
        private int width;

        Pen(Pool pool, Lifted lifted, Lines lines) {
            this.pool = pool;
            this.lifted = lifted;
            this.lines = lines;
        }

        /** A sign of what was written last. */
        int signAt(int k) {
            return k >= 0 && k < width && k < MOST_SIGNS ? signs[k] : NONE;
        }

        int widthOf(int e) {
            width = 0;
            writeExpression(e, 0);
            return width;
        }

        int widthOfLine(int i) {
            width = 0;
            int b = lines.block[i];
            switch (lines.kind[i]) {
                case STATEMENT: writeStatement(lines.link[i]); break;
                case LOOP: writeBlock("loop B", b, "{"); break;
                case BLOCK: writeBlock("block B", b, "{"); break;
                case IF:
                    write("if ");
                    writeExpression(lifted.test[b], 0);
                    write("{");
                    break;
                case ELSE: write("else{"); break;
                case CLOSE: write("}"); break;
                case BREAK: writeBlock("break B", b, ";"); break;
                case CONTINUE: writeBlock("continue B", b, ";"); break;
                case GOTO: writeBlock("goto B", b, ";"); break;
                case TRY: write("try{"); break;
                case CATCH: writeBlock("}catch B", b, ";"); break;
                default: writeBlock("B", b, ":");
            }
            return width;
        }

        private void writeBlock(String ahead, int block, String behind) {
            write(ahead);
            writeNumber(block);
            write(behind);
        }

        private void writeStatement(int s) {
            int which = lifted.which[s];
            switch (lifted.kind[s]) {
                case SET_VARIABLE: writeSign('a' + which); write("="); break;
                case SET_T: writeName('t', which); write("="); break;
                case SET_X: writeName('x', which); write("="); break;
                case OUT: write("out "); break;
                case THROW: write("throw "); break;
                case RETURN: write("return"); break;
                default:
            }
            if (lifted.expression[s] != NONE) {
                writeExpression(lifted.expression[s], 0);
            }
            write(";");
        }

        private void writeExpression(int e, int level) {
            if (e == NONE || level > DEEPEST) {
                return;
            }
            int sign = pool.sign[e];
            int left = pool.left[e];
            switch (sign) {
                case 'k': writeNumber(left); return;
                case 'l': writeSign('a' + left); return;
                case 'T': writeName('t', left); return;
                case 'X': writeName('x', left); return;
                case 'i': write("in"); return;
                default:
            }
            if (isBinary(sign)) {
                write("(");
                writeExpression(left, level + 1);
                writeSign(sign);
                writeExpression(pool.right[e], level + 1);
                write(")");
            } else {
                writeSign(sign == 'n' ? '-' : sign);
                writeExpression(left, level + 1);
            }
        }

        private void writeName(int letter, int number) {
            writeSign(letter);
            writeNumber(number);
        }

        /** Numbers here have three digits at most. */
        private void writeNumber(int number) {
            if (number > 99) {
                writeSign('0' + number / 100);
            }
            if (number > 9) {
                writeSign('0' + number / 10 % 10);
            }
            writeSign('0' + number % 10);
        }

        private void write(String text) {
            for (int k = 0; k < text.length(); k++) {
                writeSign(text.charAt(k));
            }
        }

        private void writeSign(int sign) {
            if (width < MOST_SIGNS) {
                signs[width] = sign;
            }
            width++;
        }
    }
}
