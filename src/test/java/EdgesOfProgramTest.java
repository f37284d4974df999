/** The boundaries of promises 1 to 8, and those of the program, the profile and the loop heads. */
public final class EdgesOfProgramTest {
    private static final Edges EDGES = new Edges("EdgesOfProgramTest");
    private static final int[] AS_CLEARED = {0, 2, -1, -1, 0, 0, 0, 0};

    public static void main(String[] args) {
        numberOfBlocks();
        firstState();
        sizeOfABlock();
        kindsOfEnds();
        newObject();
        clearBegins();
        clearZeroes();
        clearAnswers();
        clearRefuses();
        setSizeAnswers();
        setSizeRefuses();
        setGoZeroes();
        setGoRefuses();
        setIfZeroes();
        setIfRefuses();
        setStopZeroes();
        setStopRefuses();
        invertAllBits();
        invertWeights();
        invertRefuses();
        properties();
        blockRefuses();
        countsAndWeights();
        profileGrows();
        dominated();
        loopHeads();
        EDGES.finish();
    }

    private static void allAsCleared(String when, BlockLayout x, int block) {
        for (int what = 0; what <= 7; what++) {
            EDGES.due("block(" + block + ", " + what + ") " + when, x.block(block, what), AS_CLEARED[what]);
        }
        EDGES.due("end(" + block + ", 0) " + when, x.end(block, 0), 5);
    }

    // ---- the description

    private static void numberOfBlocks() {
        EDGES.holds(0, "There are n blocks, numbered from 0; n is from 1 to 16 and 1 at first.");
        EDGES.indices(BlockLayout::new, "block(.., 1) of a new object", 1, (x, b) -> x.block(b, 1));
        EDGES.answers(BlockLayout::new, "clear(1) of a new object", x -> x.clear(1), 1);
        for (int n : new int[] {1, 2, 15, 16}) {
            EDGES.indices(() -> Programs.ofBlocks(n), "block(.., 1) of " + n, n, (x, b) -> x.block(b, 1));
            EDGES.indices(() -> Programs.ofBlocks(n), "order(..) of " + n, n, (x, i) -> x.order(i));
            EDGES.answers(() -> Programs.ofBlocks(n), "clear(1) of " + n, x -> x.clear(1), n);
        }
    }

    private static void firstState() {
        EDGES.holds(0, "At first all blocks have the size 0 and stop.");
        allAsCleared("of a new object", new BlockLayout(), 0);
        BlockLayout x = Programs.full();
        x.clear(16);
        for (int b = 0; b < 16; b++) allAsCleared("after clear", x, b);
    }

    private static void sizeOfABlock() {
        EDGES.holds(0, "A block has a size from 0 to 60 bytes and an end.");
        for (int size : new int[] {0, 1, 59, 60}) {
            BlockLayout x = new BlockLayout();
            x.setSize(0, size);
            EDGES.due("block(0, 0) with " + size, x.block(0, 0), size);
            EDGES.due("its bytes and a return", x.layout(1), size + 1);
        }
        for (int size : new int[] {-1, 61}) {
            EDGES.refused(BlockLayout::new, Edges.ARGUMENT, "setSize(0, " + size + ")", x -> x.setSize(0, size));
        }
    }

    private static void kindsOfEnds() {
        EDGES.holds(0, "The end goes to one block (kind 0), or, depending on a condition, to a first block if it is true "
            + "and to another, second block if it is not (kind 1), or stops (kind 2).");
        BlockLayout x = Programs.ofBlocks(2);
        EDGES.due("the kind of a stop", x.block(0, 1), 2);
        EDGES.due("setGo(0, 1)", x.setGo(0, 1), 2);
        EDGES.due("the kind of a go", x.block(0, 1), 0);
        EDGES.due("run(2) follows it", x.run(2), 2);
        for (int pattern : new int[] {0, 1}) {
            x.setIf(0, 1, 0, pattern);
            EDGES.due("the kind of an if", x.block(0, 1), 1);
            EDGES.due("a true condition leads to 1 at once", Check.outcome(() -> x.run(2)),
                pattern == 1 ? (Object) 2 : "ArithmeticException");
            x.setIf(0, 0, 1, pattern);
            EDGES.due("a false condition leads to 1 at once", Check.outcome(() -> x.run(2)),
                pattern == 0 ? (Object) 2 : "ArithmeticException");
        }
        EDGES.refused(() -> Programs.ofBlocks(2), Edges.ARGUMENT, "setIf(0, 1, 1, 1), which has no other second block",
            y -> y.setIf(0, 1, 1, 1));
    }

    private static void countsAndWeights() {
        EDGES.holds(0, "Every block has a count, and every edge, which leads from a block to a block to which its end goes, "
            + "has a weight.");
        BlockLayout x = Programs.ofBlocks(2);
        x.setIf(0, 0, 1, 1);
        x.run(3);
        EDGES.due("the count of 0", x.block(0, 4), 2);
        EDGES.due("the count of 1", x.block(1, 4), 1);
        EDGES.due("the edge from 0 to itself", x.block(0, 5), 1);
        EDGES.due("the edge from 0 to 1", x.block(0, 6), 1);
        EDGES.due("no edge from 1", x.block(1, 5) + x.block(1, 6), 0);
    }

    private static void profileGrows() {
        EDGES.holds(0, "They are 0 at first, and increase by the number of times that the block is executed, and the edge is "
            + "followed, in each call of run that does not throw an exception.");
        BlockLayout x = Programs.lasting(33);
        profile(x, "before", 0, 0, 0, 0);
        EDGES.due("run(32)", Check.outcome(() -> x.run(32)), "ArithmeticException");
        profile(x, "after a run that threw", 0, 0, 0, 0);
        x.run(33);
        profile(x, "after a run", 32, 1, 31, 1);
        EDGES.due("run(0)", Check.outcome(() -> x.run(0)), "IllegalArgumentException");
        x.runLayout(33);
        profile(x, "after runLayout", 32, 1, 31, 1);
        x.run(500);
        profile(x, "after two runs", 64, 2, 62, 2);
    }

    private static void profile(BlockLayout x, String when, int count0, int count1, int again, int out) {
        EDGES.due("the count of 0 " + when, x.block(0, 4), count0);
        EDGES.due("the count of 1 " + when, x.block(1, 4), count1);
        EDGES.due("the weight of 0>0 " + when, x.block(0, 5), again);
        EDGES.due("the weight of 0>1 " + when, x.block(0, 6), out);
    }

    private static String heads(BlockLayout x, int blocks) {
        StringBuilder heads = new StringBuilder();
        for (int b = 0; b < blocks; b++) heads.append(x.block(b, 7) == 1 ? " " + b : "");
        return heads.toString().trim();
    }

    private static void dominated() {
        EDGES.holds(0, "Block h dominates block u if every path from block 0 to u contains h.");
        BlockLayout x = Programs.ofBlocks(4);
        x.setGo(0, 1);
        x.setGo(1, 1);
        EDGES.due("a block dominates itself", heads(x, 4), "1");
        x.setGo(1, 0);
        EDGES.due("block 0 dominates all that is reached", heads(x, 4), "0");
        x.setGo(1, 2);
        x.setGo(2, 1);
        EDGES.due("the only way to 2 is by 1", heads(x, 4), "1");
        x.setIf(0, 1, 3, 0);
        EDGES.due("a way out round 1 that does not lead to 2", heads(x, 4), "1");
        x.setGo(3, 2);
        EDGES.due("a way round 1 to 2, and none of both dominates the other", heads(x, 4), "");
        x.setGo(0, 3);
        EDGES.due("both only by 3, and then by 2", heads(x, 4), "2");
    }

    private static void loopHeads() {
        EDGES.holds(0, "Block h is a loop head if some block u that can be reached from block 0 goes to h, and h dominates u.");
        BlockLayout x = Programs.ofBlocks(1);
        EDGES.due("one block that stops", heads(x, 1), "");
        x.setGo(0, 0);
        EDGES.due("one block that goes to itself", heads(x, 1), "0");
        x.clear(4);
        x.setGo(0, 1);
        x.setGo(2, 1);
        x.setGo(1, 3);
        EDGES.due("2 goes back to 1 but is not reached", heads(x, 4), "");
        x.setGo(2, 2);
        EDGES.due("2 goes to itself but is not reached", heads(x, 4), "");
        x.setIf(1, 2, 3, 0);
        EDGES.due("2 is reached, even if the pattern never leads to it", heads(x, 4), "2");
        x.setIf(2, 3, 1, 0);
        EDGES.due("the second block of an end counts as its first one does", heads(x, 4), "1");
        x.invert(2);
        EDGES.due("the first block of an end", heads(x, 4), "1");
        x.setIf(2, 3, 0, 0);
        EDGES.due("block 0 as a second block", heads(x, 4), "0");
        x.invert(2);
        EDGES.due("block 0 as a first block", heads(x, 4), "0");
        x.setGo(2, 3);
        EDGES.due("nothing goes back", heads(x, 4), "");
        // 3 goes to 1 from behind it; 0 goes to 1 from before it.
        x.setGo(3, 1);
        EDGES.due("one of several blocks that go to 1 is enough", heads(x, 4), "1");
        longRings();
    }

    private static void longRings() {
        BlockLayout up = Programs.ofBlocks(16);
        for (int b = 0; b < 15; b++) up.setGo(b, b + 1);
        for (int head : new int[] {0, 1, 14, 15}) {
            up.setGo(15, head);
            EDGES.due("15 of an ascending chain goes to " + head, heads(up, 16), "" + head);
        }
        BlockLayout down = Programs.ofBlocks(16);
        down.setGo(0, 15);
        for (int b = 15; b > 1; b--) down.setGo(b, b - 1);
        for (int head : new int[] {0, 15, 2, 1}) {
            down.setGo(1, head);
            EDGES.due("1 of a descending chain goes to " + head, heads(down, 16), "" + head);
        }
        down.setStop(8);
        EDGES.due("a chain that is cut", heads(down, 16), "");
    }

    // ---- the promises

    private static void newObject() {
        EDGES.holds(1, "Creates a program with one block.");
        EDGES.leaves(BlockLayout::new, "clear(1)", x -> x.clear(1), 1, BlockLayout::new);
        BlockLayout x = new BlockLayout();
        EDGES.due("order(0)", x.order(0), 0);
        EDGES.due("hot blocks", x.layout(2), 1);
        EDGES.due("the alignment", x.layout(7), 1);
        EDGES.due("the loop limit", x.layout(8), 1);
        EDGES.due("pathLength()", x.pathLength(), 0);
        EDGES.due("cycles()", x.cycles(), 0);
        EDGES.due("feed, the first", x.feed('1'), 1);
        EDGES.refused(BlockLayout::new, Edges.INDEX, "order(1)", y -> y.order(1));
        EDGES.refused(BlockLayout::new, Edges.NO_ELEMENT, "undo()", BlockLayout::undo);
    }

    private static void clearBegins() {
        EDGES.holds(2, "Begins a new program.");
        BlockLayout x = Programs.full();
        x.clear(1);
        allAsCleared("after clear(1)", x, 0);
        x.clear(16);
        for (int b = 0; b < 16; b++) allAsCleared("after clear(1) and clear(16)", x, b);
        EDGES.due("the order", Check.order(x), "0 1 2 3 4 5 6 7 8 9 10 11 12 13 14 15");
        EDGES.due("run(1)", x.run(1), 1);
    }

    private static void clearZeroes() {
        EDGES.holds(2, "Counts and weights become 0; alignment and limits stay.");
        int[][] settings = {{1, 0}, {1, 1}, {32, 9999}, {16, 9998}};
        for (int[] setting : settings) {
            BlockLayout x = Programs.fiveBlocks();
            x.setAlignment(setting[0]);
            x.setLoopLimit(setting[1]);
            x.clear(5);
            EDGES.due("the alignment", x.layout(7), setting[0]);
            EDGES.due("the loop limit", x.layout(8), setting[1]);
            for (int b = 0; b < 5; b++) allAsCleared("after clear(5)", x, b);
            EDGES.due("the sum of all counts", x.clearProfile(), 0);
        }
    }

    private static void clearAnswers() {
        EDGES.holds(2, "Returns the previous number of blocks.");
        BlockLayout x = new BlockLayout();
        int previous = 1;
        for (int blocks : new int[] {1, 16, 16, 15, 2, 1, 8}) {
            EDGES.due("clear(" + blocks + ")", x.clear(blocks), previous);
            EDGES.due("clear(17)", Check.outcome(() -> x.clear(17)), "IllegalArgumentException");
            previous = blocks;
        }
    }

    private static void clearRefuses() {
        EDGES.holds(2, "Throws IllegalArgumentException if blocks is not from 1 to 16");
        EDGES.range(BlockLayout::new, "clear of a new object", 1, 16, Edges.ARGUMENT, (x, n) -> x.clear(n));
        EDGES.range(Programs::busy, "clear", 1, 16, Edges.ARGUMENT, (x, n) -> x.clear(n));
        EDGES.range(Programs::full, "clear of 16", 1, 16, Edges.ARGUMENT, (x, n) -> x.clear(n));
    }

    private static void setSizeAnswers() {
        EDGES.holds(3, "Returns the previous size.");
        BlockLayout x = Programs.ofBlocks(16);
        int previous = 0;
        for (int size : new int[] {60, 0, 1, 59, 59, 60}) {
            EDGES.due("setSize(15, " + size + ")", x.setSize(15, size), previous);
            EDGES.due("setSize(15, 61)", Check.outcome(() -> x.setSize(15, 61)), "IllegalArgumentException");
            previous = size;
        }
        EDGES.due("the size of a block before it", x.block(14, 0), 0);
        EDGES.due("setSize(0, 1)", x.setSize(0, 1), 0);
    }

    private static void setSizeRefuses() {
        EDGES.holds(3, "Throws IndexOutOfBoundsException if there is no such block");
        EDGES.indices(BlockLayout::new, "setSize(.., 1) of 1", 1, (x, b) -> x.setSize(b, 1));
        EDGES.indices(Programs::busy, "setSize(.., 60) of 5", 5, (x, b) -> x.setSize(b, 60));
        EDGES.indices(Programs::full, "setSize(.., 0) of 16", 16, (x, b) -> x.setSize(b, 0));
        EDGES.holds(3, "Throws IllegalArgumentException if size is not from 0 to 60");
        EDGES.range(Programs::busy, "setSize(4, ..)", 0, 60, Edges.ARGUMENT, (x, size) -> x.setSize(4, size));
        EDGES.range(Programs::full, "setSize(15, ..)", 0, 60, Edges.ARGUMENT, (x, size) -> x.setSize(15, size));
    }

    /** Block 4 of five goes on as it did before, but without weights; the rest stays. */
    private static void zeroed(String what, BlockLayout x) {
        EDGES.due("the first weight after " + what, x.block(4, 5), 0);
        EDGES.due("the second weight after " + what, x.block(4, 6), 0);
        EDGES.due("the count after " + what, x.block(4, 4), 5);
        EDGES.due("the weight of 0>4 after " + what, x.block(0, 5), 5);
        EDGES.due("the weight of 3>0 after " + what, x.block(3, 5), 2);
    }

    private static void setGoZeroes() {
        EDGES.holds(4, "The weights of its edges become 0.");
        BlockLayout x = Programs.fiveBlocks();
        EDGES.due("the first weight before", x.block(4, 5), 2);
        EDGES.due("setGo(4, 3), a block to which it went", x.setGo(4, 3), 1);
        zeroed("setGo", x);
        EDGES.due("setGo(3, 0), as it is", x.setGo(3, 0), 0);
        EDGES.due("its weight", x.block(3, 5), 0);
        EDGES.holds(4, "Returns the previous kind of its end.");
        EDGES.due("setGo(1, 1) of a stop", x.setGo(1, 1), 2);
        EDGES.due("setGo(1, 0) of a go", x.setGo(1, 0), 0);
        EDGES.due("setGo(0, 1) of an if", x.setGo(0, 1), 1);
    }

    private static void setGoRefuses() {
        EDGES.holds(4, "Throws IndexOutOfBoundsException if one of both blocks does not exist");
        EDGES.indices(BlockLayout::new, "setGo(.., 0) of 1", 1, (x, b) -> x.setGo(b, 0));
        EDGES.indices(BlockLayout::new, "setGo(0, ..) of 1", 1, (x, b) -> x.setGo(0, b));
        EDGES.indices(Programs::busy, "setGo(.., 2) of 5", 5, (x, b) -> x.setGo(b, 2));
        EDGES.indices(Programs::busy, "setGo(0, ..) of 5", 5, (x, b) -> x.setGo(0, b));
        EDGES.indices(Programs::full, "setGo(.., 15) of 16", 16, (x, b) -> x.setGo(b, 15));
        EDGES.indices(Programs::full, "setGo(15, ..) of 16", 16, (x, b) -> x.setGo(15, b));
        EDGES.indices(Programs::full, "setGo(.., ..) of 16", 16, (x, b) -> x.setGo(b, b));
    }

    private static void setIfZeroes() {
        EDGES.holds(5, "The weights of its edges become 0.");
        BlockLayout x = Programs.fiveBlocks();
        EDGES.due("setIf(4, 3, 2, 3), as it is", x.setIf(4, 3, 2, 3), 1);
        zeroed("setIf", x);
        EDGES.holds(5, "Returns the previous kind of its end.");
        EDGES.due("setIf(1, 1, 0, 1) of a stop", x.setIf(1, 1, 0, 1), 2);
        EDGES.due("setIf(1, 0, 1, 1) of an if", x.setIf(1, 0, 1, 1), 1);
        EDGES.due("setIf(3, 0, 1, 1) of a go", x.setIf(3, 0, 1, 1), 0);
    }

    private static void setIfRefuses() {
        EDGES.holds(5, "Throws IndexOutOfBoundsException if one of the blocks does not exist");
        EDGES.indices(() -> Programs.ofBlocks(2), "setIf(.., 0, 1, 1) of 2", 2, (x, b) -> x.setIf(b, 0, 1, 1));
        EDGES.indices(Programs::busy, "setIf(.., 3, 4, 1) of 5", 5, (x, b) -> x.setIf(b, 3, 4, 1));
        EDGES.indices(Programs::busy, "setIf(4, .., 2, 1) of 5, 2 apart", 5, (x, b) -> x.setIf(4, b, b == 2 ? 1 : 2, 1));
        EDGES.indices(Programs::busy, "setIf(4, 2, .., 1) of 5, 2 apart", 5, (x, b) -> x.setIf(4, b == 2 ? 1 : 2, b, 1));
        EDGES.indices(Programs::full, "setIf(.., 0, 15, 1) of 16", 16, (x, b) -> x.setIf(b, 0, 15, 1));
        EDGES.indices(Programs::full, "setIf(15, .., 7, 1) of 16", 16, (x, b) -> x.setIf(15, b, 7, 1));
        EDGES.indices(Programs::full, "setIf(15, 7, .., 1) of 16", 16, (x, b) -> x.setIf(15, 7, b, 1));
        EDGES.holds(5, "Throws IllegalArgumentException if the first and the second block are the same");
        EDGES.refused(BlockLayout::new, Edges.ARGUMENT, "setIf(0, 0, 0, 1) of 1", x -> x.setIf(0, 0, 0, 1));
        for (int same = 0; same < 5; same++) {
            int target = same;
            EDGES.refused(Programs::busy, Edges.ARGUMENT, "setIf(4, " + target + ", " + target + ", 1)",
                x -> x.setIf(4, target, target, 1));
            EDGES.answers(Programs::busy, "a second block behind it", x -> x.setIf(4, target, (target + 1) % 5, 1), 1);
            EDGES.answers(Programs::busy, "a second block before it", x -> x.setIf(4, target, (target + 4) % 5, 1), 1);
        }
        EDGES.refused(Programs::full, Edges.ARGUMENT, "setIf(0, 15, 15, 1) of 16", x -> x.setIf(0, 15, 15, 1));
    }

    private static void setStopZeroes() {
        EDGES.holds(6, "The weights of its edges become 0.");
        BlockLayout x = Programs.fiveBlocks();
        EDGES.due("setStop(4)", x.setStop(4), 1);
        zeroed("setStop", x);
        x.setIf(4, 3, 2, 3);
        EDGES.due("nor do they come back", x.block(4, 5) + x.block(4, 6), 0);
        EDGES.holds(6, "Returns the previous kind of its end.");
        EDGES.due("setStop(4) of an if", x.setStop(4), 1);
        EDGES.due("setStop(4) of a stop", x.setStop(4), 2);
        EDGES.due("setStop(3) of a go", x.setStop(3), 0);
    }

    private static void setStopRefuses() {
        EDGES.holds(6, "Throws IndexOutOfBoundsException if there is no such block");
        EDGES.indices(BlockLayout::new, "setStop of 1", 1, (x, b) -> x.setStop(b));
        EDGES.indices(Programs::busy, "setStop of 5", 5, (x, b) -> x.setStop(b));
        EDGES.indices(Programs::full, "setStop of 16", 16, (x, b) -> x.setStop(b));
    }

    private static void invertAllBits() {
        EDGES.holds(7, "Exchanges the first and the second block of an end of kind 1, and inverts all bits of its pattern.");
        int[] patterns = {0, -1, 1, -2, 0x80000000, 0x7fffffff, 0x40000000, 0x55555555, 0x12345678};
        for (int pattern : patterns) {
            BlockLayout x = Programs.conditions(pattern);
            x.run(500);
            EDGES.due("the bits before", Programs.patternSeen(x), pattern);
            EDGES.due("invert(0)", x.invert(0), 2);
            EDGES.due("the second block", x.block(0, 3), 1);
            x.run(500);
            EDGES.due("the way stays", Programs.patternSeen(x), pattern);
            EDGES.due("invert(0) back", x.invert(0), 1);
            x.runLayout(500);
            EDGES.due("the way stays once more", Programs.patternSeen(x), pattern);
        }
        EDGES.holds(7, "Returns the new first block.");
        EDGES.answers(Programs::busy, "invert(0) from 4 1", x -> x.invert(0), 1);
        EDGES.answers(Programs::busy, "invert(4) from 3 2", x -> x.invert(4), 2);
    }

    private static void invertWeights() {
        EDGES.holds(7, "The weights stay with their edges.");
        BlockLayout x = Programs.fiveBlocks();
        EDGES.due("the weight of 4>3", x.block(4, 5), 2);
        EDGES.due("the weight of 4>2", x.block(4, 6), 3);
        x.invert(4);
        EDGES.due("the weight of 4>2 inverted", x.block(4, 5), 3);
        EDGES.due("the weight of 4>3 inverted", x.block(4, 6), 2);
        BlockLayout once = Programs.lasting(2);
        once.run(2);
        once.invert(0);
        EDGES.due("a weight of 1", once.block(0, 5), 1);
        EDGES.due("a weight of 0", once.block(0, 6), 0);
    }

    private static void invertRefuses() {
        EDGES.holds(7, "Throws IndexOutOfBoundsException if there is no such block");
        EDGES.indices(() -> Programs.lasting(2), "invert of 1 and a stop, by number", 2, (x, b) -> b == 1 ? 0 : x.invert(b));
        EDGES.indices(Programs::busy, "invert of 5, those with a condition", 5, (x, b) -> b > 0 && b < 4 ? 0 : x.invert(b));
        EDGES.indices(Programs::full, "invert of 16, 14 for 15", 16, (x, b) -> b > 0 && b < 14 ? 0 : x.invert(b == 15 ? 14 : b));
        EDGES.holds(7, "Throws UnsupportedOperationException if its end is not of kind 1");
        EDGES.refused(BlockLayout::new, Edges.UNSUPPORTED, "invert(0) of a stop", x -> x.invert(0));
        EDGES.refused(Programs::busy, Edges.UNSUPPORTED, "invert(1) of a stop", x -> x.invert(1));
        EDGES.refused(Programs::busy, Edges.UNSUPPORTED, "invert(2) of a go", x -> x.invert(2));
        EDGES.refused(Programs::full, Edges.UNSUPPORTED, "invert(15) of a stop", x -> x.invert(15));
        EDGES.answers(Programs::full, "invert(14) of an if", x -> x.invert(14), 15);
    }

    private static void properties() {
        EDGES.holds(8, "what: 0 the size; 1 the kind of its end; 2 the block to which it goes, or the first block, -1 without "
            + "one; 3 the second block, -1 without one; 4 the count; 5 the weight of the edge to 2; 6 the weight of the edge "
            + "to 3, both 0 without one; 7 whether it is a loop head (1 or 0)");
        int[][] due = {
            {11, 1, 4, 1, 6, 5, 1, 1}, {60, 2, -1, -1, 1, 0, 0, 0}, {33, 0, 0, -1, 3, 3, 0, 0},
            {60, 0, 0, -1, 2, 2, 0, 0}, {7, 1, 3, 2, 5, 2, 3, 0},
        };
        BlockLayout x = Programs.busy();
        for (int b = 0; b < 5; b++) {
            for (int what = 0; what <= 7; what++) {
                EDGES.due("block(" + b + ", " + what + ")", x.block(b, what), due[b][what]);
            }
        }
    }

    private static void blockRefuses() {
        EDGES.holds(8, "Throws IndexOutOfBoundsException if there is no such block");
        for (int what : new int[] {0, 2, 7}) {
            EDGES.indices(BlockLayout::new, "block(.., " + what + ") of 1", 1, (x, b) -> x.block(b, what));
            EDGES.indices(Programs::busy, "block(.., " + what + ") of 5", 5, (x, b) -> x.block(b, what));
            EDGES.indices(Programs::full, "block(.., " + what + ") of 16", 16, (x, b) -> x.block(b, what));
        }
        EDGES.holds(8, "Throws IllegalArgumentException if what is not valid");
        for (int b : new int[] {0, 1, 4}) {
            EDGES.range(Programs::busy, "block(" + b + ", ..)", 0, 7, Edges.ARGUMENT, (x, what) -> x.block(b, what));
        }
    }
}
