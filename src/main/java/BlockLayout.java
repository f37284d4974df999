import java.util.NoSuchElementException;

/**
 * Plans the order in which the blocks of a program stand in memory. The
 * document's numbered promises say what each call answers.
 *
 * All rows are made once, in constructors: a call makes nothing but the
 * exception that it throws.
 */
public final class BlockLayout {
    private static final int MOST_BLOCKS = 16;
    private static final int MOST_SIZE = 60;
    private static final int MOST_STEPS = 500;
    private static final int MOST_LIMIT = 9999;
    private static final int MOST_ALIGNMENT = 32;
    private static final int MOST_SEARCHED = 7;
    private static final int MOST_UNDONE = 10;
    private static final int MOST_CHARACTERS = 60;
    private static final int MOST_NUMBER_DIGITS = 2;
    private static final int MOST_PATTERN_DIGITS = 6;

    private static final int NONE = -1;
    private static final int ALL_BLOCKS = (1 << MOST_BLOCKS) - 1;
    private static final int COLD_ALIGNMENT = 64;
    private static final int FAULT_ANSWER = -100;
    private static final int ABOVE_ALL_COSTS = 0x7fffffff;

    private static final int KIND_GO = 0;
    private static final int KIND_IF = 1;
    private static final int KIND_STOP = 2;

    private static final int FORM_NOTHING = 0;
    private static final int FORM_JUMP = 1;
    private static final int FORM_BRANCH = 2;
    private static final int FORM_INVERTED = 3;
    private static final int FORM_BRANCH_AND_JUMP = 4;
    private static final int FORM_RETURN = 5;

    private static final int RETURN_BYTES = 1;
    private static final int SHORT_BYTES = 2;
    private static final int LONG_JUMP_BYTES = 5;
    private static final int LONG_BRANCH_BYTES = 6;
    private static final int LOWEST_SHORT = -128;
    private static final int HIGHEST_SHORT = 127;

    private static final int METHOD_WEIGHTS = 0;
    private static final int METHOD_SEARCH = 2;

    private final Program program;
    private final Plan plan;
    private final Placement placement;
    private final Arranger arranger;
    private final Machine machine;
    private final History history;
    private final Input input;
    private int loopLimit;

    public BlockLayout() {
        program = new Program();
        plan = new Plan();
        placement = new Placement(program, plan);
        arranger = new Arranger(program, plan);
        machine = new Machine(program);
        history = new History();
        input = new Input();
        loopLimit = 1;
        program.begin(1);
        plan.begin(1);
    }

    // ---- program

    public int clear(int blocks) throws IllegalArgumentException {
        if (blocks < 1 || blocks > MOST_BLOCKS) {
            throw new IllegalArgumentException("the number of blocks is not from 1 to 16");
        }
        int previous = program.blocks;
        program.begin(blocks);
        plan.begin(blocks);
        history.forget();
        return previous;
    }

    public int setSize(int block, int size) throws IndexOutOfBoundsException, IllegalArgumentException {
        checkBlock(block);
        if (size < 0 || size > MOST_SIZE) {
            throw new IllegalArgumentException("the size is not from 0 to 60");
        }
        int previous = program.size[block];
        program.size[block] = size;
        return previous;
    }

    public int setGo(int block, int to) throws IndexOutOfBoundsException {
        checkBlock(block);
        checkBlock(to);
        return program.changeEnd(block, KIND_GO, to, NONE, 0);
    }

    public int setIf(int block, int first, int second, int pattern)
            throws IndexOutOfBoundsException, IllegalArgumentException {
        checkBlock(block);
        checkBlock(first);
        checkBlock(second);
        if (first == second) {
            throw new IllegalArgumentException("the first and the second block are the same");
        }
        return program.changeEnd(block, KIND_IF, first, second, pattern);
    }

    public int setStop(int block) throws IndexOutOfBoundsException {
        checkBlock(block);
        return program.changeEnd(block, KIND_STOP, NONE, NONE, 0);
    }

    public int invert(int block) throws IndexOutOfBoundsException, UnsupportedOperationException {
        checkBlock(block);
        if (program.kind[block] != KIND_IF) {
            throw new UnsupportedOperationException("the end has no condition");
        }
        program.swapTargets(block);
        return program.first[block];
    }

    public int block(int block, int what) throws IndexOutOfBoundsException, IllegalArgumentException {
        checkBlock(block);
        switch (what) {
            case 0: return program.size[block];
            case 1: return program.kind[block];
            case 2: return program.first[block];
            case 3: return program.second[block];
            case 4: return program.count[block];
            case 5: return program.firstWeight[block];
            case 6: return program.secondWeight[block];
            case 7: return program.isHead(block) ? 1 : 0;
            default: throw new IllegalArgumentException("a block has no such property");
        }
    }

    // ---- executions

    public int run(int limit) throws IllegalArgumentException, ArithmeticException {
        executeWithin(limit);
        machine.addToProfile();
        return machine.length;
    }

    public int runLayout(int limit) throws IllegalArgumentException, ArithmeticException {
        executeWithin(limit);
        placement.settle(plan.alignment, loopLimit);
        return placement.cyclesOfPath(machine);
    }

    public int pathLength() {
        return machine.length;
    }

    public int pathBlock(int i) throws IndexOutOfBoundsException {
        if (i < 0 || i >= machine.length) {
            throw new IndexOutOfBoundsException("so many blocks were not executed");
        }
        return machine.path[i];
    }

    public int clearProfile() {
        int sum = program.sumOfCounts();
        program.forgetProfile();
        return sum;
    }

    // ---- layout

    public int setAlignment(int alignment) throws IllegalArgumentException {
        boolean inRange = alignment >= 1 && alignment <= MOST_ALIGNMENT;
        if (!inRange || (alignment & (alignment - 1)) != 0) {
            throw new IllegalArgumentException("the alignment is not 1, 2, 4, 8, 16 or 32");
        }
        history.remember(plan);
        int previous = plan.alignment;
        plan.alignment = alignment;
        return previous;
    }

    public int setLoopLimit(int limit) throws IllegalArgumentException {
        if (limit < 0 || limit > MOST_LIMIT) {
            throw new IllegalArgumentException("the loop limit is not from 0 to 9999");
        }
        int previous = loopLimit;
        loopLimit = limit;
        return previous;
    }

    public int arrange(int method, int coldLimit)
            throws IllegalArgumentException, UnsupportedOperationException {
        if (method < METHOD_WEIGHTS || method > METHOD_SEARCH) {
            throw new IllegalArgumentException("there is no such method");
        }
        if (coldLimit < -1 || coldLimit > MOST_LIMIT) {
            throw new IllegalArgumentException("the cold limit is not from -1 to 9999");
        }
        arranger.divide(coldLimit);
        if (method == METHOD_SEARCH && arranger.hotBlocks > MOST_SEARCHED) {
            throw new UnsupportedOperationException("there are more than 7 hot blocks");
        }
        history.remember(plan);
        arranger.makePlan(method);
        placement.findForms();
        return placement.sumOfCosts(plan.hot);
    }

    public int exchange(int i, int j) throws IndexOutOfBoundsException, IllegalArgumentException {
        checkPosition(i);
        checkPosition(j);
        if (i == 0 || j == 0) {
            throw new IllegalArgumentException("block 0 stands first");
        }
        history.remember(plan);
        int moved = plan.row[i];
        plan.row[i] = plan.row[j];
        plan.row[j] = moved;
        return plan.row[i];
    }

    public int setHot(int count) throws IllegalArgumentException {
        if (count < 1 || count > program.blocks) {
            throw new IllegalArgumentException("the number of hot blocks is not from 1 to that of all");
        }
        history.remember(plan);
        int previous = plan.hot;
        plan.hot = count;
        return previous;
    }

    public int order(int i) throws IndexOutOfBoundsException {
        checkPosition(i);
        return plan.row[i];
    }

    public int place(int block, int what) throws IndexOutOfBoundsException, IllegalArgumentException {
        checkBlock(block);
        checkWhat(what, 3);
        placement.settle(plan.alignment, loopLimit);
        switch (what) {
            case 0: return placement.position[block];
            case 1: return placement.address[block];
            case 2: return placement.padding[block];
            default: return placement.position[block] < plan.hot ? 1 : 0;
        }
    }

    public int end(int block, int what) throws IndexOutOfBoundsException, IllegalArgumentException {
        checkBlock(block);
        checkWhat(what, 3);
        placement.settle(plan.alignment, loopLimit);
        switch (what) {
            case 0: return placement.form[block];
            case 1: return placement.bytesOfEnd(block);
            case 2: return placement.isBranchLong(block) ? 1 : 0;
            default: return placement.isJumpLong(block) ? 1 : 0;
        }
    }

    public int layout(int what) throws IllegalArgumentException {
        checkWhat(what, 8);
        placement.settle(plan.alignment, loopLimit);
        switch (what) {
            case 0: return placement.hotEnd;
            case 1: return placement.wholeEnd;
            case 2: return plan.hot;
            case 3: return placement.sumOfPadding();
            case 4: return placement.countOfLong();
            case 5: return placement.sumOfCosts(program.blocks);
            case 6: return placement.countOfForm(FORM_INVERTED);
            case 7: return plan.alignment;
            default: return loopLimit;
        }
    }

    public int cycles() {
        return cyclesAligned(plan.alignment);
    }

    public double meanCycles() throws ArithmeticException {
        int executed = program.sumOfCounts();
        if (executed == 0) {
            throw new ArithmeticException("no block was executed");
        }
        return (double) cyclesAligned(plan.alignment) / (double) executed;
    }

    public int bestAlignment() {
        int best = 1;
        int leastCycles = cyclesAligned(1);
        int lowestEnd = placement.wholeEnd;
        for (int alignment = 2; alignment <= MOST_ALIGNMENT; alignment *= 2) {
            int taken = cyclesAligned(alignment);
            boolean lower = taken == leastCycles && placement.wholeEnd < lowestEnd;
            if (taken < leastCycles || lower) {
                best = alignment;
                leastCycles = taken;
                lowestEnd = placement.wholeEnd;
            }
        }
        return best;
    }

    // ---- texts, undoing

    public int feed(char character) throws IllegalStateException {
        if (!input.append(character)) {
            throw new IllegalStateException("the input has 60 characters");
        }
        return input.length;
    }

    public int read(int block) throws IndexOutOfBoundsException, IllegalArgumentException {
        checkBlock(block);
        boolean isText = input.parse();
        // The input is empty after every answer from here on, exceptions too.
        input.length = 0;
        if (!isText) {
            return FAULT_ANSWER - input.at;
        }
        if (input.size > MOST_SIZE || !areTargetsFit()) {
            throw new IllegalArgumentException("the text does not fit the program");
        }
        program.size[block] = input.size;
        program.changeEnd(block, input.kind, input.first, input.second, input.pattern);
        return input.kind;
    }

    public int undo() throws NoSuchElementException {
        if (!history.restore(plan)) {
            throw new NoSuchElementException("there is no call to undo");
        }
        return history.kept;
    }

    // ---- what several calls share

    private void checkBlock(int block) {
        if (!program.has(block)) {
            throw new IndexOutOfBoundsException("there is no such block");
        }
    }

    private void checkPosition(int position) {
        // There are as many positions as blocks.
        if (!program.has(position)) {
            throw new IndexOutOfBoundsException("there is no such position");
        }
    }

    private static void checkWhat(int what, int greatest) {
        if (what < 0 || what > greatest) {
            throw new IllegalArgumentException("there is no such number");
        }
    }

    private void executeWithin(int limit) {
        if (limit < 1 || limit > MOST_STEPS) {
            throw new IllegalArgumentException("the limit is not from 1 to 500");
        }
        if (!machine.execute(limit)) {
            throw new ArithmeticException("the limit is not enough");
        }
    }

    private int cyclesAligned(int alignment) {
        placement.settle(alignment, loopLimit);
        return placement.cyclesOfProfile();
    }

    private boolean areTargetsFit() {
        if (input.kind == KIND_GO) {
            return program.has(input.first);
        }
        if (input.kind == KIND_IF) {
            return program.has(input.first) && program.has(input.second) && input.first != input.second;
        }
        return true;
    }

    /** The blocks, their ends, and the profile. Targets that an end lacks are NONE, their weights 0. */
    private static final class Program {
        private final int[] size = new int[MOST_BLOCKS];
        private final int[] kind = new int[MOST_BLOCKS];
        private final int[] first = new int[MOST_BLOCKS];
        private final int[] second = new int[MOST_BLOCKS];
        private final int[] pattern = new int[MOST_BLOCKS];
        private final int[] count = new int[MOST_BLOCKS];
        private final int[] firstWeight = new int[MOST_BLOCKS];
        private final int[] secondWeight = new int[MOST_BLOCKS];
        private int blocks;
        /** A bit for each loop head; only ends decide on it, so it is found when one of them changes. */
        private int heads;

        private void begin(int newBlocks) {
            blocks = newBlocks;
            for (int block = 0; block < MOST_BLOCKS; block++) {
                size[block] = 0;
                kind[block] = KIND_STOP;
                first[block] = NONE;
                second[block] = NONE;
                pattern[block] = 0;
            }
            forgetProfile();
            heads = 0;
        }

        private boolean has(int block) {
            return block >= 0 && block < blocks;
        }

        private int changeEnd(int block, int newKind, int newFirst, int newSecond, int newPattern) {
            int previous = kind[block];
            kind[block] = newKind;
            first[block] = newFirst;
            second[block] = newSecond;
            pattern[block] = newPattern;
            firstWeight[block] = 0;
            secondWeight[block] = 0;
            findHeads();
            return previous;
        }

        private void swapTargets(int block) {
            int target = first[block];
            first[block] = second[block];
            second[block] = target;
            int weight = firstWeight[block];
            firstWeight[block] = secondWeight[block];
            secondWeight[block] = weight;
            pattern[block] = ~pattern[block];
        }

        private void forgetProfile() {
            for (int block = 0; block < MOST_BLOCKS; block++) {
                count[block] = 0;
                firstWeight[block] = 0;
                secondWeight[block] = 0;
            }
        }

        private int sumOfCounts() {
            int sum = 0;
            for (int block = 0; block < blocks; block++) {
                sum += count[block];
            }
            return sum;
        }

        private int weightTo(int block, int target) {
            if (target == NONE) {
                return 0;
            }
            if (first[block] == target) {
                return firstWeight[block];
            }
            return second[block] == target ? secondWeight[block] : 0;
        }

        /** The cycles for all of a block's weights, padding apart; next may be NONE. */
        private int costOf(int block, int next) {
            int cost = firstWeight[block] * edgeCycles(block, first[block], next);
            return cost + secondWeight[block] * edgeCycles(block, second[block], next);
        }

        private int edgeCycles(int block, int target, int next) {
            boolean fallsThrough = target == next;
            if (kind[block] == KIND_GO) {
                return fallsThrough ? 0 : 2;
            }
            // Taken, a branch takes 3; not taken, with a jump behind it, 1 and 2.
            return fallsThrough ? 1 : 3;
        }

        private boolean isHead(int block) {
            return holds(heads, block);
        }

        private void findHeads() {
            heads = 0;
            int reached = reachedWithin(ALL_BLOCKS);
            for (int block = 0; block < blocks; block++) {
                int dominated = reached & ~reachedWithin(ALL_BLOCKS & ~(1 << block));
                if (anyGoesTo(dominated, block)) {
                    heads |= 1 << block;
                }
            }
        }

        /** The blocks on paths from block 0 that keep to the allowed blocks, a bit for each. */
        private int reachedWithin(int allowed) {
            int reached = allowed & 1;
            boolean grows = reached != 0;
            for (int round = 0; round < blocks && grows; round++) {
                int before = reached;
                for (int block = 0; block < blocks; block++) {
                    if (holds(reached, block)) {
                        reached |= targetsOf(block) & allowed;
                    }
                }
                grows = reached != before;
            }
            return reached;
        }

        private boolean anyGoesTo(int from, int target) {
            for (int block = 0; block < blocks; block++) {
                if (holds(from, block) && holds(targetsOf(block), target)) {
                    return true;
                }
            }
            return false;
        }

        private int targetsOf(int block) {
            int targets = 0;
            if (first[block] != NONE) {
                targets |= 1 << first[block];
            }
            if (second[block] != NONE) {
                targets |= 1 << second[block];
            }
            return targets;
        }

        private static boolean holds(int set, int block) {
            return (set >> block & 1) == 1;
        }
    }

    /** What undo brings back: the order, the number of hot blocks and the alignment. */
    private static final class Plan {
        private final int[] row = new int[MOST_BLOCKS];
        private int hot;
        private int alignment = 1;

        private void begin(int blocks) {
            for (int position = 0; position < MOST_BLOCKS; position++) {
                row[position] = position;
            }
            hot = blocks;
        }
    }

    /** Forms of ends and addresses, found anew for each question, so that nothing in it can be out of date. */
    private static final class Placement {
        private final Program program;
        private final Plan plan;
        private final int[] position = new int[MOST_BLOCKS];
        private final int[] next = new int[MOST_BLOCKS];
        private final int[] form = new int[MOST_BLOCKS];
        private final int[] branchBytes = new int[MOST_BLOCKS];
        private final int[] jumpBytes = new int[MOST_BLOCKS];
        private final int[] address = new int[MOST_BLOCKS];
        private final int[] padding = new int[MOST_BLOCKS];
        private int hotEnd;
        private int wholeEnd;

        private Placement(Program program, Plan plan) {
            this.program = program;
            this.plan = plan;
        }

        private void settle(int alignment, int loopLimit) {
            findForms();
            setAddresses(alignment, loopLimit);
            boolean widened = widen();
            // A round widens at least one of two jumps or branches a block.
            for (int round = 0; round < 2 * MOST_BLOCKS && widened; round++) {
                setAddresses(alignment, loopLimit);
                widened = widen();
            }
        }

        private void findForms() {
            for (int at = 0; at < program.blocks; at++) {
                int block = plan.row[at];
                boolean last = at + 1 == program.blocks || at + 1 == plan.hot;
                position[block] = at;
                next[block] = last ? NONE : plan.row[at + 1];
                form[block] = formOf(block, next[block]);
                branchBytes[block] = hasBranch(block) ? SHORT_BYTES : 0;
                jumpBytes[block] = hasJump(block) ? SHORT_BYTES : 0;
            }
        }

        private int formOf(int block, int next) {
            int kind = program.kind[block];
            if (kind == KIND_STOP) {
                return FORM_RETURN;
            }
            if (kind == KIND_GO) {
                return program.first[block] == next ? FORM_NOTHING : FORM_JUMP;
            }
            if (program.second[block] == next) {
                return FORM_BRANCH;
            }
            return program.first[block] == next ? FORM_INVERTED : FORM_BRANCH_AND_JUMP;
        }

        private boolean hasBranch(int block) {
            return form[block] == FORM_BRANCH || form[block] == FORM_INVERTED || form[block] == FORM_BRANCH_AND_JUMP;
        }

        private boolean hasJump(int block) {
            return form[block] == FORM_JUMP || form[block] == FORM_BRANCH_AND_JUMP;
        }

        private void setAddresses(int alignment, int loopLimit) {
            int behind = 0;
            for (int at = 0; at < program.blocks; at++) {
                int block = plan.row[at];
                int start = at == plan.hot ? multipleFrom(behind, COLD_ALIGNMENT) : behind;
                if (program.isHead(block) && program.count[block] >= loopLimit) {
                    start = multipleFrom(start, alignment);
                }
                address[block] = start;
                padding[block] = start - behind;
                behind = start + program.size[block] + bytesOfEnd(block);
                if (at + 1 == plan.hot) {
                    hotEnd = behind;
                }
            }
            wholeEnd = behind;
        }

        /** The lowest multiple that is not below the address; the step is a power of 2. */
        private static int multipleFrom(int address, int step) {
            return (address + step - 1) & -step;
        }

        /** Makes long what is too far, by the addresses as they stand; whether there was any. */
        private boolean widen() {
            boolean any = false;
            for (int block = 0; block < program.blocks; block++) {
                int behindBranch = address[block] + program.size[block] + branchBytes[block];
                int behindJump = behindBranch + jumpBytes[block];
                if (branchBytes[block] == SHORT_BYTES && isFar(branchTarget(block), behindBranch)) {
                    branchBytes[block] = LONG_BRANCH_BYTES;
                    any = true;
                }
                if (jumpBytes[block] == SHORT_BYTES && isFar(jumpTarget(block), behindJump)) {
                    jumpBytes[block] = LONG_JUMP_BYTES;
                    any = true;
                }
            }
            return any;
        }

        private int branchTarget(int block) {
            return form[block] == FORM_INVERTED ? program.second[block] : program.first[block];
        }

        private int jumpTarget(int block) {
            return form[block] == FORM_JUMP ? program.first[block] : program.second[block];
        }

        private boolean isFar(int target, int behind) {
            if (!program.has(target)) {
                return false;
            }
            int distance = address[target] - behind;
            return distance < LOWEST_SHORT || distance > HIGHEST_SHORT;
        }

        private int bytesOfEnd(int block) {
            if (form[block] == FORM_RETURN) {
                return RETURN_BYTES;
            }
            return branchBytes[block] + jumpBytes[block];
        }

        private boolean isBranchLong(int block) {
            return branchBytes[block] == LONG_BRANCH_BYTES;
        }

        private boolean isJumpLong(int block) {
            return jumpBytes[block] == LONG_JUMP_BYTES;
        }

        private int sumOfPadding() {
            int sum = 0;
            for (int block = 0; block < program.blocks; block++) {
                sum += padding[block];
            }
            return sum;
        }

        private int countOfLong() {
            int count = 0;
            for (int block = 0; block < program.blocks; block++) {
                count += isBranchLong(block) ? 1 : 0;
                count += isJumpLong(block) ? 1 : 0;
            }
            return count;
        }

        private int countOfForm(int wanted) {
            int count = 0;
            for (int block = 0; block < program.blocks; block++) {
                count += form[block] == wanted ? 1 : 0;
            }
            return count;
        }

        /** The costs of the blocks at so many positions from the beginning. */
        private int sumOfCosts(int positions) {
            int sum = 0;
            for (int block = 0; block < program.blocks; block++) {
                if (position[block] < positions) {
                    sum += program.costOf(block, next[block]);
                }
            }
            return sum;
        }

        private int cyclesOfProfile() {
            int sum = sumOfCosts(program.blocks);
            for (int block = 0; block < program.blocks; block++) {
                if (hasPaddedNext(block)) {
                    sum += program.weightTo(block, next[block]);
                }
            }
            return sum;
        }

        private boolean hasPaddedNext(int block) {
            return next[block] != NONE && padding[next[block]] > 0;
        }

        private int cyclesOfPath(Machine machine) {
            int sum = 0;
            for (int step = 0; step + 1 < machine.length; step++) {
                int block = machine.path[step];
                int target = machine.path[step + 1];
                sum += program.edgeCycles(block, target, next[block]);
                if (target == next[block] && padding[target] > 0) {
                    sum += 1;
                }
            }
            return sum;
        }
    }

    /** Makes a plan from the profile. */
    private static final class Arranger {
        private final Program program;
        private final Plan plan;
        private final boolean[] isHot = new boolean[MOST_BLOCKS];
        private int hotBlocks;
        /** The block behind a block in its chain, NONE for the last one. */
        private final int[] behind = new int[MOST_BLOCKS];
        /** The first block of the chain in which a block stands. */
        private final int[] chainOf = new int[MOST_BLOCKS];
        /** For each unplaced chain, by its first block, the weights of edges from placed blocks. */
        private final int[] pull = new int[MOST_BLOCKS];
        private final boolean[] isPlaced = new boolean[MOST_BLOCKS];
        private int bestGain;
        private int bestLast;
        private int bestFirst;
        private final int[] trial = new int[MOST_SEARCHED];
        private int leastCost;

        private Arranger(Program program, Plan plan) {
            this.program = program;
            this.plan = plan;
        }

        private void divide(int coldLimit) {
            hotBlocks = 0;
            for (int block = 0; block < program.blocks; block++) {
                isHot[block] = block == 0 || program.count[block] > coldLimit;
                hotBlocks += isHot[block] ? 1 : 0;
            }
        }

        private void makePlan(int method) {
            if (method == METHOD_SEARCH) {
                leastCost = ABOVE_ALL_COSTS;
                trial[0] = 0;
                search(1, 1, 0);
            } else {
                joinChains(method == METHOD_WEIGHTS);
                placeChains();
            }
            plan.hot = hotBlocks;
            placeCold();
        }

        private void placeCold() {
            int at = hotBlocks;
            for (int block = 0; block < program.blocks; block++) {
                if (!isHot[block] && at < MOST_BLOCKS) {
                    plan.row[at] = block;
                    at++;
                }
            }
        }

        private void joinChains(boolean byWeights) {
            for (int block = 0; block < program.blocks; block++) {
                behind[block] = NONE;
                chainOf[block] = block;
            }
            boolean joined = true;
            for (int round = 0; round < MOST_BLOCKS && joined; round++) {
                joined = joinBest(byWeights);
            }
        }

        /**
         * An edge that can't join two chains never can later. So the best of those that can, again
         * and again, is the same as going once through all of them in descending order.
         */
        private boolean joinBest(boolean byWeights) {
            bestGain = 0;
            for (int block = 0; block < program.blocks; block++) {
                int first = program.first[block];
                int second = program.second[block];
                // No gain but by a target; of equal ones, weights prefer the first, gains the lowest.
                boolean firstLeads = byWeights || first < second;
                weigh(block, firstLeads ? first : second, byWeights);
                weigh(block, firstLeads ? second : first, byWeights);
            }
            if (bestGain > 0) {
                append(bestLast, bestFirst);
            }
            return bestGain > 0;
        }

        private void weigh(int last, int first, boolean byWeights) {
            if (!canJoin(last, first)) {
                return;
            }
            int gain = byWeights
                    ? program.weightTo(last, first)
                    : program.costOf(last, NONE) - program.costOf(last, first);
            if (gain > bestGain) {
                bestGain = gain;
                bestLast = last;
                bestFirst = first;
            }
        }

        private boolean canJoin(int last, int first) {
            if (first <= 0 || !program.has(first) || !isHot[last] || !isHot[first]) {
                return false;
            }
            return behind[last] == NONE && chainOf[first] == first && chainOf[last] != first;
        }

        private void append(int last, int first) {
            behind[last] = first;
            for (int block = 0; block < program.blocks; block++) {
                if (chainOf[block] == first) {
                    chainOf[block] = chainOf[last];
                }
            }
        }

        private void placeChains() {
            for (int block = 0; block < program.blocks; block++) {
                pull[block] = 0;
                isPlaced[block] = false;
            }
            int at = placeChain(0, 0);
            for (int round = 0; round < MOST_BLOCKS && at < hotBlocks; round++) {
                at = placeChain(strongestChain(), at);
            }
        }

        /** Places a chain from a position on; answers the position behind it. */
        private int placeChain(int chain, int from) {
            int at = from;
            int block = chain;
            while (program.has(block) && at < hotBlocks) {
                plan.row[at] = block;
                isPlaced[block] = true;
                pullFor(program.first[block], program.firstWeight[block]);
                pullFor(program.second[block], program.secondWeight[block]);
                block = behind[block];
                at++;
            }
            return at;
        }

        private void pullFor(int target, int weight) {
            if (program.has(target)) {
                pull[chainOf[target]] += weight;
            }
        }

        private int strongestChain() {
            int strongest = NONE;
            for (int block = 0; block < program.blocks; block++) {
                boolean candidate = isHot[block] && chainOf[block] == block && !isPlaced[block];
                if (candidate && (strongest == NONE || pull[block] > pull[strongest])) {
                    strongest = block;
                }
            }
            return strongest;
        }

        /** Tries orders lexicographically, so that only one of a lower cost takes the place of another. */
        private void search(int depth, int taken, int cost) {
            if (depth < 1 || depth > MOST_SEARCHED || cost >= leastCost) {
                return;
            }
            int last = trial[depth - 1];
            if (depth >= hotBlocks || depth == MOST_SEARCHED) {
                keepTrial(depth, cost + program.costOf(last, NONE));
                return;
            }
            for (int block = 1; block < program.blocks; block++) {
                if (isHot[block] && (taken >> block & 1) == 0) {
                    trial[depth] = block;
                    search(depth + 1, taken | 1 << block, cost + program.costOf(last, block));
                }
            }
        }

        private void keepTrial(int length, int cost) {
            if (cost < leastCost) {
                leastCost = cost;
                for (int at = 0; at < length; at++) {
                    plan.row[at] = trial[at];
                }
            }
        }
    }

    /** Executes the program; only an execution that comes to a stop replaces the path of the latest one. */
    private static final class Machine {
        private final Program program;
        private int[] path = new int[MOST_STEPS];
        private int[] newPath = new int[MOST_STEPS];
        private final int[] times = new int[MOST_BLOCKS];
        private int length;

        private Machine(Program program) {
            this.program = program;
        }

        private boolean execute(int limit) {
            for (int block = 0; block < MOST_BLOCKS; block++) {
                times[block] = 0;
            }
            int block = 0;
            for (int step = 0; step < limit && step < MOST_STEPS && program.has(block); step++) {
                newPath[step] = block;
                if (program.kind[block] == KIND_STOP) {
                    keepPath(step + 1);
                    return true;
                }
                block = follow(block);
            }
            return false;
        }

        private int follow(int block) {
            int time = times[block];
            times[block] = time + 1;
            boolean isTrue = (program.pattern[block] >> (time & 31) & 1) == 1;
            if (program.kind[block] == KIND_IF && !isTrue) {
                return program.second[block];
            }
            return program.first[block];
        }

        private void keepPath(int newLength) {
            int[] kept = path;
            path = newPath;
            newPath = kept;
            length = newLength;
        }

        private void addToProfile() {
            for (int step = 0; step < length; step++) {
                int block = path[step];
                program.count[block]++;
                if (step + 1 < length) {
                    addToEdge(block, path[step + 1]);
                }
            }
        }

        private void addToEdge(int block, int target) {
            if (program.first[block] == target) {
                program.firstWeight[block]++;
            } else {
                program.secondWeight[block]++;
            }
        }
    }

    /** The plans before the latest calls that changed one; a ring, whose oldest plan gives way. */
    private static final class History {
        private final int[] rows = new int[MOST_UNDONE * MOST_BLOCKS];
        private final int[] hots = new int[MOST_UNDONE];
        private final int[] alignments = new int[MOST_UNDONE];
        private int slot;
        private int kept;

        private void forget() {
            kept = 0;
        }

        private void remember(Plan plan) {
            for (int at = 0; at < MOST_BLOCKS; at++) {
                rows[slot * MOST_BLOCKS + at] = plan.row[at];
            }
            hots[slot] = plan.hot;
            alignments[slot] = plan.alignment;
            slot = slot + 1 == MOST_UNDONE ? 0 : slot + 1;
            kept = Math.min(kept + 1, MOST_UNDONE);
        }

        private boolean restore(Plan plan) {
            if (kept == 0) {
                return false;
            }
            slot = slot == 0 ? MOST_UNDONE - 1 : slot - 1;
            kept--;
            for (int at = 0; at < MOST_BLOCKS; at++) {
                plan.row[at] = rows[slot * MOST_BLOCKS + at];
            }
            plan.hot = hots[slot];
            plan.alignment = alignments[slot];
            return true;
        }
    }

    /** The characters that were fed, and what a text among them says. */
    private static final class Input {
        private final char[] characters = new char[MOST_CHARACTERS];
        private int length;
        /** The offset of the character that is looked at; where a parse fails, the fault position. */
        private int at;
        private int number;
        private int size;
        private int kind;
        private int first;
        private int second;
        private int pattern;

        private boolean append(char character) {
            if (length >= MOST_CHARACTERS) {
                return false;
            }
            characters[length] = character;
            length++;
            return true;
        }

        private boolean parse() {
            at = 0;
            first = NONE;
            second = NONE;
            pattern = 0;
            if (!takeNumber(MOST_NUMBER_DIGITS)) {
                return false;
            }
            size = number;
            return takeWord(" ") && takeEnd() && at == length;
        }

        private boolean takeEnd() {
            if (sees('s')) {
                kind = KIND_STOP;
                return takeWord("stop");
            }
            if (sees('g')) {
                kind = KIND_GO;
                return takeWord("go ") && takeFirst();
            }
            kind = KIND_IF;
            return takeWord("if ") && takeFirst() && takeWord(" ") && takeSecond() && takeWord(" ") && takePattern();
        }

        private boolean takeFirst() {
            boolean taken = takeNumber(MOST_NUMBER_DIGITS);
            first = number;
            return taken;
        }

        private boolean takeSecond() {
            boolean taken = takeNumber(MOST_NUMBER_DIGITS);
            second = number;
            return taken;
        }

        private boolean takePattern() {
            boolean negative = sees('-');
            if (negative) {
                at++;
            }
            boolean taken = takeNumber(MOST_PATTERN_DIGITS);
            pattern = negative ? -number : number;
            return taken;
        }

        /** Takes as many digits as there are, up to the most; at least one is due. */
        private boolean takeNumber(int mostDigits) {
            number = 0;
            int digits = 0;
            while (digits < mostDigits && seesDigit()) {
                number = number * 10 + (characters[at] - '0');
                at++;
                digits++;
            }
            return digits > 0;
        }

        private boolean takeWord(String word) {
            for (int i = 0; i < word.length(); i++) {
                if (!sees(word.charAt(i))) {
                    return false;
                }
                at++;
            }
            return true;
        }

        private boolean sees(char wanted) {
            return at < length && characters[at] == wanted;
        }

        private boolean seesDigit() {
            return at < length && characters[at] >= '0' && characters[at] <= '9';
        }
    }
}
