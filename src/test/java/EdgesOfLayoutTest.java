/** The boundaries of promises 14, 15 and 17 to 22, and those of layouts, ends and addresses. */
public final class EdgesOfLayoutTest {
    private static final Edges EDGES = new Edges("EdgesOfLayoutTest");
    private static final int[] ALIGNMENTS = {1, 2, 4, 8, 16, 32};

    public static void main(String[] args) {
        layouts();
        firstLayout();
        nextBlocks();
        goEnds();
        ifEnds();
        bytes();
        firstAddress();
        blockBehindBlock();
        coldSection();
        loopLimits();
        loopLimitOf9999();
        lowestMultiples();
        paddingOfColdBlocks();
        forwardDistances();
        backwardDistances();
        shortAtFirst();
        longOnesStayLong();
        allAtOnce();
        repeated();
        setAlignment();
        setLoopLimit();
        exchange();
        setHot();
        order();
        place();
        end();
        layoutNumbers();
        EDGES.finish();
    }

    /** Blocks of these sizes, each of which goes to the one behind it; the last one stops. */
    private static BlockLayout chain(int... sizes) {
        BlockLayout x = Programs.ofBlocks(sizes.length);
        for (int b = 0; b < sizes.length; b++) {
            x.setSize(b, sizes[b]);
            if (b + 1 < sizes.length) x.setGo(b, b + 1);
        }
        return x;
    }

    // ---- layouts and ends

    private static void layouts() {
        EDGES.holds(0, "A layout is an order of all blocks, in which block 0 stands first, and a number of hot blocks, from 1 to "
            + "n: so many blocks from the beginning are hot, the others are cold.");
        for (int n : new int[] {1, 2, 16}) {
            for (int hot : new int[] {1, 2, n - 1, n}) {
                if (hot >= 1 && hot <= n) hotFromTheBeginning(n, hot);
            }
        }
        BlockLayout x = Programs.ofBlocks(4);
        x.setHot(2);
        x.exchange(1, 3);
        EDGES.due("the block that now stands among the hot ones", x.place(3, 3), 1);
        EDGES.due("the block that now stands among the cold ones", x.place(1, 3), 0);
    }

    private static void hotFromTheBeginning(int n, int hot) {
        BlockLayout x = Programs.ofBlocks(n);
        x.setHot(hot);
        EDGES.due("the block that stands first", x.order(0), 0);
        EDGES.due("the number of hot blocks", x.layout(2), hot);
        for (int b = 0; b < n; b++) {
            EDGES.due(hot + " of " + n + " hot, place(" + b + ", 3)", x.place(b, 3), b < hot ? 1 : 0);
        }
    }

    private static void firstLayout() {
        EDGES.holds(0, "At first, and after every clear, the order is ascending and all blocks are hot.");
        EDGES.answers(BlockLayout::new, "the order of a new object", Check::order, "0");
        EDGES.answers(BlockLayout::new, "the hot blocks of a new object", x -> x.layout(2), 1);
        int[] numbers = {1, 2, 5, 16};
        for (int n : numbers) {
            BlockLayout x = Programs.busy();
            x.clear(n);
            StringBuilder ascending = new StringBuilder("0");
            for (int b = 1; b < n; b++) ascending.append(' ').append(b);
            EDGES.due("the order after clear(" + n + ")", Check.order(x), ascending.toString());
            EDGES.due("the hot blocks after clear(" + n + ")", x.layout(2), n);
            x.setHot(1);
            x.clear(n);
            EDGES.due("the hot blocks after another clear(" + n + ")", x.layout(2), n);
        }
    }

    private static void nextBlocks() {
        EDGES.holds(0, "The next block of a block is the one behind it in the order, if both are hot or both are cold; otherwise "
            + "there is none.");
        for (int hot = 1; hot <= 4; hot++) {
            BlockLayout x = chain(0, 0, 0, 0);
            x.setGo(3, 0);
            x.setHot(hot);
            for (int b = 0; b < 3; b++) {
                EDGES.due(hot + " hot, end(" + b + ", 0)", x.end(b, 0), b == hot - 1 ? 1 : 0);
            }
            EDGES.due(hot + " hot, the last block of all", x.end(3, 0), 1);
            for (int b = 0; b < 3; b++) {
                x.setIf(b, b + 1, 0, 0);
                EDGES.due(hot + " hot, end(" + b + ", 0) of an if", x.end(b, 0), b == hot - 1 ? 4 : 3);
            }
            x.setIf(3, 0, 1, 0);
            EDGES.due(hot + " hot, the last block of all with an if", x.end(3, 0), 4);
        }
    }

    private static void goEnds() {
        EDGES.holds(0, "An end of kind 0 needs nothing if its block is the next one, and otherwise a jump.");
        BlockLayout x = Programs.ofBlocks(4);
        int[] forms = {1, 1, 0, 1};
        for (int to = 0; to < 4; to++) {
            x.setGo(1, to);
            EDGES.due("from 1 to " + to, x.end(1, 0), forms[to]);
            EDGES.due("bytes from 1 to " + to, x.end(1, 1), 2 * forms[to]);
        }
        x.setGo(1, 2);
        x.exchange(2, 3);
        EDGES.due("from 1 to 2, which is not behind it any more", x.end(1, 0), 1);
        x.setGo(1, 3);
        EDGES.due("from 1 to 3, which is", x.end(1, 0), 0);
    }

    private static void ifEnds() {
        EDGES.holds(0, "An end of kind 1 needs a branch to the first block if the second block is the next one; otherwise, if the "
            + "first block is the next one, an inverted branch, which goes to the second block; otherwise a branch to the "
            + "first block and, behind it, a jump to the second one.");
        BlockLayout x = Programs.ofBlocks(4);
        for (int first = 0; first < 4; first++) {
            for (int second = 0; second < 4; second++) {
                if (first == second) continue;
                x.setIf(1, first, second, 0);
                int form = second == 2 ? 2 : first == 2 ? 3 : 4;
                EDGES.due("from 1 to " + first + " and " + second, x.end(1, 0), form);
                EDGES.due("its bytes", x.end(1, 1), form == 4 ? 4 : 2);
            }
        }
        EDGES.holds(0, "An end of kind 2 needs a return.");
        x.setStop(1);
        EDGES.due("of 1, behind which a block stands", x.end(1, 0), 5);
        EDGES.due("of the last one", x.end(3, 0), 5);
        x.setHot(2);
        EDGES.due("of the last hot one", x.end(1, 0), 5);
        EDGES.due("of a cold one", x.end(2, 0), 5);
    }

    private static void bytes() {
        EDGES.holds(0, "A return has 1 byte.");
        EDGES.answers(BlockLayout::new, "end(0, 1)", x -> x.end(0, 1), 1);
        EDGES.answers(BlockLayout::new, "the address behind it", x -> x.layout(1), 1);
        EDGES.holds(0, "A jump has 2 bytes if it is short and 5 if it is long; a branch or inverted branch has 2 bytes if it is "
            + "short and 6 if it is long.");
        endOf("a short jump", forward(6, x -> x.setGo(0, 4)), 1, 2);
        endOf("a long jump", forward(7, x -> x.setGo(0, 4)), 1, 5);
        endOf("a short branch", forward(6, x -> x.setIf(0, 4, 1, 0)), 2, 2);
        endOf("a long branch", forward(7, x -> x.setIf(0, 4, 1, 0)), 2, 6);
        endOf("a short inverted branch", forward(6, x -> x.setIf(0, 1, 4, 0)), 3, 2);
        endOf("a long inverted branch", forward(7, x -> x.setIf(0, 1, 4, 0)), 3, 6);
        endOf("a short branch and a short jump", forward(6, x -> x.setIf(0, 2, 4, 0)), 4, 4);
        endOf("a short branch and a long jump", forward(7, x -> x.setIf(0, 2, 4, 0)), 4, 7);
        endOf("a long branch and a short jump", forward(7, x -> x.setIf(0, 4, 3, 0)), 4, 8);
        BlockLayout x = chain(0, 60, 60, 60, 0, 0);
        x.setIf(0, 4, 5, 0);
        endOf("a long branch and a long jump", x, 4, 11);
    }

    private static void endOf(String what, BlockLayout x, int form, int bytes) {
        EDGES.due("the form of " + what, x.end(0, 0), form);
        EDGES.due("the bytes of " + what, x.end(0, 1), bytes);
        EDGES.due("the address behind " + what, x.place(1, 1), bytes);
    }

    // ---- addresses

    private static void firstAddress() {
        EDGES.holds(0, "The first block stands at address 0.");
        for (int alignment : ALIGNMENTS) {
            BlockLayout x = Programs.lasting(33);
            x.setSize(0, 60);
            x.run(33);
            x.setAlignment(alignment);
            EDGES.due("an aligned loop head", x.place(0, 1), 0);
            EDGES.due("its padding", x.place(0, 2), 0);
            x.setHot(1);
            EDGES.due("the only hot block", x.place(0, 1), 0);
        }
    }

    private static void blockBehindBlock() {
        EDGES.holds(0, "Each block is followed by what its end needs and then, in its section, by the next one.");
        BlockLayout x = chain(0, 1, 60, 0, 7, 3);
        x.setGo(3, 0);
        x.setIf(1, 0, 3, 0);
        x.setHot(4);
        int[] due = {0, 0, 5, 65, 128, 135};
        for (int b = 0; b < 6; b++) EDGES.due("place(" + b + ", 1)", x.place(b, 1), due[b]);
        EDGES.due("the address behind the hot ones", x.layout(0), 67);
        EDGES.due("the address behind all", x.layout(1), 139);
        x.exchange(4, 5);
        EDGES.due("exchanged cold blocks", x.place(5, 1), 128);
        EDGES.due("the one behind it", x.place(4, 1), 132);
    }

    private static void coldSection() {
        EDGES.holds(0, "The cold blocks begin at the lowest multiple of 64 that is not below the end of the hot ones.");
        int[][] ends = {{63, 64}, {64, 64}, {65, 128}, {127, 128}, {128, 128}, {129, 192}, {191, 192}, {192, 192}, {193, 256}};
        for (int[] pair : ends) {
            BlockLayout x = hotEndingAt(pair[0]);
            EDGES.due("the end of the hot ones", x.layout(0), pair[0]);
            EDGES.due("the first cold block behind " + pair[0], x.place(5, 1), pair[1]);
            EDGES.due("its padding", x.place(5, 2), pair[1] - pair[0]);
            EDGES.due("the block behind it", x.place(6, 1), pair[1] + 1);
            EDGES.due("that has no padding", x.place(6, 2), 0);
            EDGES.due("all padding", x.layout(3), pair[1] - pair[0]);
            x.setHot(7);
            EDGES.due("a block that is not cold", x.place(5, 1), pair[0]);
        }
        BlockLayout least = Programs.ofBlocks(2);
        least.setHot(1);
        EDGES.due("behind one byte", least.place(1, 1), 64);
    }

    /** Five hot blocks, the last of which ends behind so many bytes with its return; then two cold ones. */
    private static BlockLayout hotEndingAt(int end) {
        BlockLayout x = chain(0, 0, 0, 0, 0, 0, 0);
        int left = end - 1;
        for (int b = 0; b < 5; b++) {
            x.setSize(b, Math.min(left, 60));
            left -= Math.min(left, 60);
        }
        x.setStop(4);
        x.setStop(5);
        x.setHot(5);
        return x;
    }

    private static final String ALIGNED = "A block that is a loop head and whose count is at least the loop limit, which is 1 at "
        + "first, is aligned: its address is the lowest multiple of the alignment, which is 1 at first, that is not below the "
        + "end of what stands before it; what lies between is its padding, as are the bytes before the first cold block, up "
        + "to 63 or more.";

    /** Block 1, behind so many bytes, goes to itself and is executed so many times. */
    private static BlockLayout loop(int bytesBefore, int count) {
        BlockLayout x = chain(bytesBefore, 3, 0);
        x.setIf(1, 1, 2, Programs.bits(count - 1));
        if (count > 0) x.run(500);
        return x;
    }

    private static void loopLimits() {
        EDGES.holds(0, ALIGNED);
        EDGES.answers(BlockLayout::new, "the loop limit at first", x -> x.layout(8), 1);
        EDGES.answers(BlockLayout::new, "the alignment at first", x -> x.layout(7), 1);
        int[][] counts = {{0, 0, 32}, {0, 1, 5}, {1, 0, 32}, {1, 1, 32}, {1, 2, 5}, {2, 1, 32}, {2, 2, 32}, {2, 3, 5}, {32, 32, 32}};
        for (int[] row : counts) {
            BlockLayout x = loop(5, row[0] == 0 ? 1 : row[0]);
            if (row[0] == 0) x.clearProfile();
            x.setAlignment(32);
            x.setLoopLimit(row[1]);
            EDGES.due("a count of " + row[0] + " with the limit " + row[1], x.place(1, 1), row[2]);
        }
        BlockLayout asAtFirst = loop(5, 1);
        asAtFirst.setAlignment(8);
        EDGES.due("a count of 1 is enough at first", asAtFirst.place(1, 1), 8);
        asAtFirst.clearProfile();
        EDGES.due("a count of 0 is not", asAtFirst.place(1, 1), 5);
        BlockLayout noHead = chain(5, 3, 0);
        noHead.setLoopLimit(0);
        noHead.setAlignment(32);
        noHead.run(3);
        EDGES.due("no loop head, whatever the count", noHead.place(1, 1), 5);
        noHead.setGo(2, 1);
        EDGES.due("a loop head since 2 goes back", noHead.place(1, 1), 32);
        EDGES.due("2 is none", noHead.place(2, 1), 35);
    }

    private static void loopLimitOf9999() {
        EDGES.holds(0, ALIGNED);
        BlockLayout x = loop(5, 32);
        for (int i = 1; i < 312; i++) x.run(500);
        x.setAlignment(16);
        x.setLoopLimit(9999);
        x.setIf(1, 1, 2, Programs.bits(13));
        x.run(500);
        EDGES.due("the count", x.block(1, 4), 9998);
        EDGES.due("is not enough", x.place(1, 1), 5);
        x.setIf(1, 1, 2, 0);
        x.run(500);
        EDGES.due("the count of 9999 is", x.place(1, 1), 16);
        x.run(500);
        EDGES.due("the count", x.block(1, 4), 10000);
        EDGES.due("is as well", x.place(1, 1), 16);
    }

    private static void lowestMultiples() {
        EDGES.holds(0, ALIGNED);
        for (int a : ALIGNMENTS) {
            for (int before : new int[] {a - 1, a, a + 1, 60}) {
                BlockLayout x = loop(before, 2);
                x.setAlignment(a);
                int want = before;
                while (want % a != 0) want++;
                EDGES.due("the multiple of " + a + " from " + before + " on", x.place(1, 1), want);
                EDGES.due("the padding between", x.place(1, 2), want - before);
                EDGES.due("all padding", x.layout(3), want - before);
                EDGES.due("the block behind", x.place(2, 1), want + 3 + 2);
                EDGES.due("the padding of that block", x.place(2, 2), 0);
            }
        }
        BlockLayout empty = loop(0, 2);
        empty.setAlignment(32);
        EDGES.due("a loop head at 0", empty.place(1, 1), 0);
        EDGES.due("has no padding", empty.place(1, 2), 0);
    }

    private static void paddingOfColdBlocks() {
        EDGES.holds(0, ALIGNED);
        for (int a : ALIGNMENTS) {
            BlockLayout x = hotEndingAt(65);
            x.setLoopLimit(0);
            x.setIf(4, 5, 6, 0);
            x.setSize(1, 1);
            x.setGo(5, 5);
            x.setGo(6, 6);
            x.setAlignment(a);
            EDGES.due("the end of the hot ones", x.layout(0), 65);
            EDGES.due("a first cold block that is a loop head", x.place(5, 1), 128);
            EDGES.due("has 63 bytes of padding", x.place(5, 2), 63);
            int second = (130 + a - 1) / a * a;
            EDGES.due("a second one that is aligned by " + a, x.place(6, 1), second);
            EDGES.due("has its own padding", x.place(6, 2), second - 130);
            EDGES.due("all padding", x.layout(3), 63 + second - 130);
        }
    }

    interface Change {
        Object on(BlockLayout x);
    }

    /** Between block 0 and block 4 lie 60, 60, the size of 3, and the byte of a return. */
    private static BlockLayout forward(int sizeOf3, Change endOf0) {
        BlockLayout x = chain(0, 60, 60, sizeOf3, 0);
        x.setStop(3);
        endOf0.on(x);
        return x;
    }

    private static final String DISTANCE = "The distance of a jump or branch is the address of its target minus the address "
        + "behind it.";
    private static final String WIDENING = "Then all that are short and whose distance is not from -128 to 127 become long, all "
        + "at once; this is repeated with the new addresses until there are none.";

    private static void forwardDistances() {
        EDGES.holds(0, DISTANCE);
        for (int distance = 125; distance <= 130; distance++) {
            int isLong = distance > 127 ? 1 : 0;
            int size = distance - 121;
            String by = " by " + distance;
            EDGES.due("a jump" + by, forward(size, x -> x.setGo(0, 4)).end(0, 3), isLong);
            EDGES.due("a branch" + by, forward(size, x -> x.setIf(0, 4, 1, 0)).end(0, 2), isLong);
            EDGES.due("an inverted branch" + by, forward(size, x -> x.setIf(0, 1, 4, 0)).end(0, 2), isLong);
            EDGES.due("a jump behind a branch" + by, forward(size, x -> x.setIf(0, 2, 4, 0)).end(0, 3), isLong);
            EDGES.due("the branch before it", forward(size, x -> x.setIf(0, 2, 4, 0)).end(0, 2), 0);
            EDGES.due("a branch before a jump" + by, forward(size - 2, x -> x.setIf(0, 4, 3, 0)).end(0, 2), isLong);
            EDGES.due("the jump behind it", forward(size - 2, x -> x.setIf(0, 4, 3, 0)).end(0, 3), 0);
        }
    }

    /** Block 3 goes back to 1 over 60, 60, its own size and its own end. */
    private static BlockLayout backward(int sizeOf3, Change endOf3) {
        BlockLayout x = chain(9, 60, 60, sizeOf3, 0);
        endOf3.on(x);
        return x;
    }

    private static void backwardDistances() {
        EDGES.holds(0, DISTANCE);
        for (int distance = -126; distance >= -131; distance--) {
            int isLong = distance < -128 ? 1 : 0;
            int size = -distance - 122;
            String by = " by " + distance;
            EDGES.due("a jump" + by, backward(size, x -> x.setGo(3, 1)).end(3, 3), isLong);
            EDGES.due("a branch" + by, backward(size, x -> x.setIf(3, 1, 4, 0)).end(3, 2), isLong);
            EDGES.due("an inverted branch" + by, backward(size, x -> x.setIf(3, 4, 1, 0)).end(3, 2), isLong);
            EDGES.due("a branch before a jump" + by, backward(size, x -> x.setIf(3, 1, 2, 0)).end(3, 2), isLong);
            EDGES.due("the jump behind it", backward(size, x -> x.setIf(3, 1, 2, 0)).end(3, 3), 0);
            EDGES.due("a jump behind a branch" + by, backward(size - 2, x -> x.setIf(3, 2, 1, 0)).end(3, 3), isLong);
            EDGES.due("the branch before it", backward(size - 2, x -> x.setIf(3, 2, 1, 0)).end(3, 2), 0);
        }
    }

    private static void shortAtFirst() {
        EDGES.holds(0, "At first all of them are short.");
        BlockLayout x = backward(7, y -> y.setGo(3, 1));
        EDGES.due("a jump by -129", x.end(3, 3), 1);
        x.setSize(3, 6);
        EDGES.due("the same jump by -128, which long would be -131", x.end(3, 3), 0);
        EDGES.due("its bytes", x.end(3, 1), 2);
        x.setSize(3, 7);
        EDGES.due("by -129 once more", x.end(3, 1), 5);
        x.exchange(3, 4);
        x.exchange(1, 3);
        x.exchange(2, 3);
        EDGES.due("an order in which 1 stands before 3", Check.order(x), "0 4 1 2 3");
        x.undo();
        x.undo();
        x.undo();
        EDGES.due("the jump after all was undone", x.end(3, 1), 5);
    }

    private static void longOnesStayLong() {
        EDGES.holds(0, WIDENING);
        for (int size = 4; size <= 8; size++) {
            BlockLayout x = chain(0, 60, size, 0);
            x.setGo(0, 3);
            x.setHot(1);
            // Short, the jump is 122 and the size wide. Long, it is 3 less, for the cold blocks stay where they are.
            int isLong = 122 + size > 127 ? 1 : 0;
            EDGES.due("a jump by " + (122 + size), x.end(0, 3), isLong);
            EDGES.due("its target", x.place(3, 1), 124 + size);
            EDGES.due("the end of the hot block", x.layout(0), isLong == 1 ? 5 : 2);
        }
    }

    private static void allAtOnce() {
        EDGES.holds(0, WIDENING);
        // Both jumps are 128 wide; would one of them become long before the other is looked at, that one were 125 wide.
        BlockLayout x = chain(0, 0, 60, 6, 2, 0);
        x.setGo(0, 4);
        x.setGo(1, 5);
        x.setHot(2);
        EDGES.due("the jump of 0", x.end(0, 3), 1);
        EDGES.due("the jump of 1", x.end(1, 3), 1);
        EDGES.due("the end of both", x.layout(0), 10);
        BlockLayout y = chain(0, 0, 0, 60, 6, 2, 0);
        y.setGo(0, 2);
        y.setGo(2, 5);
        y.setGo(1, 6);
        y.exchange(1, 2);
        y.setHot(3);
        EDGES.due("the jump of 1, which stands behind 2", y.end(1, 3), 1);
        EDGES.due("the jump of 2", y.end(2, 3), 1);
        BlockLayout z = chain(0, 60, 6, 2, 0);
        z.setIf(0, 3, 4, 0);
        z.setHot(1);
        EDGES.due("the branch of 0", z.end(0, 2), 1);
        EDGES.due("the jump behind it", z.end(0, 3), 1);
        EDGES.due("their bytes", z.end(0, 1), 11);
    }

    private static void repeated() {
        EDGES.holds(0, WIDENING);
        // Each of 0 to 12 jumps by 127 over the two blocks behind it, as long as their jumps are short.
        BlockLayout x = Programs.ofBlocks(16);
        for (int b = 0; b < 15; b++) x.setSize(b, b % 2 == 0 ? 59 : 60);
        for (int b = 0; b < 13; b++) x.setIf(b, b, b + 3, 0);
        x.setIf(13, 13, 15, 0);
        x.setIf(14, 14, 13, 0);
        EDGES.due("long ones", x.layout(4), 0);
        EDGES.due("the last address", x.place(15, 1), 952);
        x.setIf(14, 14, 0, 0);
        EDGES.due("one long jump, and round for round all before it", x.layout(4), 14);
        EDGES.due("the jump of 0", x.end(0, 3), 1);
        EDGES.due("the branch of 0", x.end(0, 2), 0);
        EDGES.due("the jump of 13", x.end(13, 3), 0);
        EDGES.due("the last address then", x.place(15, 1), 952 + 14 * 3);
    }

    // ---- the promises

    private static void setAlignment() {
        EDGES.holds(14, "Returns the previous alignment.");
        BlockLayout x = new BlockLayout();
        int previous = 1;
        for (int alignment : new int[] {1, 32, 2, 16, 4, 8, 8, 1}) {
            EDGES.due("setAlignment(" + alignment + ")", x.setAlignment(alignment), previous);
            EDGES.due("setAlignment(3)", Check.outcome(() -> x.setAlignment(3)), "IllegalArgumentException");
            EDGES.due("layout(7)", x.layout(7), alignment);
            previous = alignment;
        }
        EDGES.holds(14, "Throws IllegalArgumentException if alignment is not 1, 2, 4, 8, 16 or 32");
        for (int alignment = -33; alignment <= 66; alignment++) {
            int wrong = alignment;
            boolean valid = wrong == 1 || wrong == 2 || wrong == 4 || wrong == 8 || wrong == 16 || wrong == 32;
            if (valid) {
                EDGES.answers(Programs::busy, "setAlignment(" + wrong + ")", y -> y.setAlignment(wrong), 8);
            } else {
                EDGES.refused(Programs::busy, Edges.ARGUMENT, "setAlignment(" + wrong + ")", y -> y.setAlignment(wrong));
            }
        }
        for (int wrong : new int[] {Edges.LEAST, Edges.MOST, 128, 256, 65536, 1 << 30, -64}) {
            EDGES.refused(Programs::full, Edges.ARGUMENT, "setAlignment(" + wrong + ")", y -> y.setAlignment(wrong));
        }
    }

    private static void setLoopLimit() {
        EDGES.holds(15, "Returns the previous one.");
        BlockLayout x = new BlockLayout();
        int previous = 1;
        for (int limit : new int[] {0, 9999, 1, 9998, 9998, 0}) {
            EDGES.due("setLoopLimit(" + limit + ")", x.setLoopLimit(limit), previous);
            EDGES.due("setLoopLimit(10000)", Check.outcome(() -> x.setLoopLimit(10000)), "IllegalArgumentException");
            EDGES.due("layout(8)", x.layout(8), limit);
            previous = limit;
        }
        EDGES.holds(15, "Throws IllegalArgumentException if limit is not from 0 to 9999");
        EDGES.range(BlockLayout::new, "setLoopLimit of a new object", 0, 9999, Edges.ARGUMENT, (y, n) -> y.setLoopLimit(n));
        EDGES.range(Programs::busy, "setLoopLimit", 0, 9999, Edges.ARGUMENT, (y, n) -> y.setLoopLimit(n));
    }

    private static void exchange() {
        EDGES.holds(17, "Returns the block that stands at position i then.");
        BlockLayout x = Programs.ofBlocks(16);
        EDGES.due("exchange(1, 15)", x.exchange(1, 15), 15);
        EDGES.due("exchange(1, 15) once more", x.exchange(1, 15), 1);
        EDGES.due("exchange(15, 1)", x.exchange(15, 1), 1);
        EDGES.due("exchange(15, 15)", x.exchange(15, 15), 1);
        EDGES.due("the order", Check.order(x), "0 15 2 3 4 5 6 7 8 9 10 11 12 13 14 1");
        EDGES.holds(17, "i: a position, from 0");
        EDGES.answers(() -> Programs.ofBlocks(3), "exchange(1, 2) of 3", y -> y.exchange(1, 2), 2);
        EDGES.answers(() -> Programs.ofBlocks(3), "exchange(2, 1) of 3", y -> y.exchange(2, 1), 1);
        EDGES.answers(() -> Programs.ofBlocks(3), "exchange(3, 1) of 3", y -> y.exchange(3, 1), "IndexOutOfBoundsException");
        EDGES.holds(17, "Throws IndexOutOfBoundsException if there is no such position");
        EDGES.indices(Programs::busy, "exchange(.., 1), 1 for 0", 5, (y, i) -> y.exchange(i == 0 ? 1 : i, 1));
        EDGES.indices(Programs::busy, "exchange(1, ..), 1 for 0", 5, (y, i) -> y.exchange(1, i == 0 ? 1 : i));
        EDGES.indices(Programs::full, "exchange(.., 15), 1 for 0", 16, (y, i) -> y.exchange(i == 0 ? 1 : i, 15));
        EDGES.indices(Programs::full, "exchange(15, ..), 1 for 0", 16, (y, i) -> y.exchange(15, i == 0 ? 1 : i));
        EDGES.refused(BlockLayout::new, Edges.INDEX, "exchange(1, 1) of 1", y -> y.exchange(1, 1));
        EDGES.holds(17, "Throws IllegalArgumentException if one of both positions is 0");
        EDGES.refused(BlockLayout::new, Edges.ARGUMENT, "exchange(0, 0) of 1", y -> y.exchange(0, 0));
        EDGES.refused(Programs::busy, Edges.ARGUMENT, "exchange(0, 0)", y -> y.exchange(0, 0));
        EDGES.refused(Programs::busy, Edges.ARGUMENT, "exchange(0, 1)", y -> y.exchange(0, 1));
        EDGES.refused(Programs::busy, Edges.ARGUMENT, "exchange(4, 0)", y -> y.exchange(4, 0));
        EDGES.refused(Programs::full, Edges.ARGUMENT, "exchange(15, 0)", y -> y.exchange(15, 0));
        EDGES.answers(() -> Programs.ofBlocks(2), "exchange(1, 1) of 2", y -> y.exchange(1, 1), 1);
    }

    private static void setHot() {
        EDGES.holds(18, "Returns the previous number.");
        BlockLayout x = Programs.ofBlocks(16);
        int previous = 16;
        for (int count : new int[] {1, 16, 15, 2, 2, 16}) {
            EDGES.due("setHot(" + count + ")", x.setHot(count), previous);
            EDGES.due("setHot(17)", Check.outcome(() -> x.setHot(17)), "IllegalArgumentException");
            previous = count;
        }
        EDGES.holds(18, "Throws IllegalArgumentException if count is not from 1 to the number of blocks");
        EDGES.range(BlockLayout::new, "setHot of 1", 1, 1, Edges.ARGUMENT, (y, n) -> y.setHot(n));
        EDGES.range(() -> Programs.ofBlocks(2), "setHot of 2", 1, 2, Edges.ARGUMENT, (y, n) -> y.setHot(n));
        EDGES.range(Programs::busy, "setHot of 5", 1, 5, Edges.ARGUMENT, (y, n) -> y.setHot(n));
        EDGES.range(Programs::full, "setHot of 16", 1, 16, Edges.ARGUMENT, (y, n) -> y.setHot(n));
    }

    private static void order() {
        EDGES.holds(19, "Throws IndexOutOfBoundsException if there is no such position");
        EDGES.indices(BlockLayout::new, "order of 1", 1, (x, i) -> x.order(i));
        EDGES.indices(Programs::busy, "order of 5", 5, (x, i) -> x.order(i));
        EDGES.indices(Programs::full, "order of 16", 16, (x, i) -> x.order(i));
        EDGES.holds(19, "i: the position, from 0");
        EDGES.answers(Programs::busy, "order(0)", x -> x.order(0), 0);
        EDGES.answers(Programs::busy, "order(1)", x -> x.order(1), 4);
        EDGES.answers(Programs::busy, "order(4)", x -> x.order(4), 1);
        EDGES.holds(19, "Returns a block of the order.");
        EDGES.answers(Programs::busy, "the order", Check::order, "0 4 3 2 1");
    }

    private static void place() {
        EDGES.holds(20, "what: 0 its position in the order; 1 its address; 2 the number of bytes of its padding; 3 whether it is "
            + "hot (1 or 0)");
        // 0: 11 bytes and a long inverted branch to 1; 4: 8 and a short one to 2; 3: 60 and a short jump to 0;
        // then the cold ones, 2: 33 and a long jump to 0; 1: the rest.
        int[][] due = {{0, 0, 0, 1}, {4, 166, 0, 0}, {3, 128, 39, 0}, {2, 27, 0, 1}, {1, 17, 0, 1}};
        BlockLayout x = chain(11, 60, 33, 60, 8);
        x.setIf(0, 4, 1, 0);
        x.setIf(4, 3, 2, 0);
        x.setGo(3, 0);
        x.setGo(2, 0);
        x.exchange(1, 4);
        x.exchange(2, 3);
        x.setHot(3);
        for (int b = 0; b < 5; b++) {
            for (int what = 0; what <= 3; what++) {
                EDGES.due("place(" + b + ", " + what + ")", x.place(b, what), due[b][what]);
            }
        }
        EDGES.holds(20, "Throws IndexOutOfBoundsException if there is no such block");
        EDGES.indices(BlockLayout::new, "place(.., 0) of 1", 1, (y, b) -> y.place(b, 0));
        EDGES.indices(Programs::busy, "place(.., 1) of 5", 5, (y, b) -> y.place(b, 1));
        EDGES.indices(Programs::full, "place(.., 3) of 16", 16, (y, b) -> y.place(b, 3));
        EDGES.holds(20, "Throws IllegalArgumentException if what is not valid");
        EDGES.range(BlockLayout::new, "place(0, ..) of 1", 0, 3, Edges.ARGUMENT, (y, what) -> y.place(0, what));
        EDGES.range(Programs::busy, "place(4, ..)", 0, 3, Edges.ARGUMENT, (y, what) -> y.place(4, what));
    }

    private static void end() {
        EDGES.holds(21, "what: 0 the form: 0 nothing, 1 a jump, 2 a branch, 3 an inverted branch, 4 a branch and a jump, 5 a "
            + "return; 1 the number of bytes; 2 whether its branch is long, 3 whether its jump is long (1 or 0, 0 without one)");
        // The target 5 is too far for 0; 1 to 4 lie between.
        ends("nothing", x -> x.setGo(0, 1), 0, 0, 0, 0);
        ends("a short jump", x -> x.setGo(0, 2), 1, 2, 0, 0);
        ends("a long jump", x -> x.setGo(0, 5), 1, 5, 0, 1);
        ends("a short branch", x -> x.setIf(0, 2, 1, 0), 2, 2, 0, 0);
        ends("a long branch", x -> x.setIf(0, 5, 1, 0), 2, 6, 1, 0);
        ends("a short inverted branch", x -> x.setIf(0, 1, 2, 0), 3, 2, 0, 0);
        ends("a long inverted branch", x -> x.setIf(0, 1, 5, 0), 3, 6, 1, 0);
        ends("a short branch and a short jump", x -> x.setIf(0, 2, 3, 0), 4, 4, 0, 0);
        ends("a long branch and a short jump", x -> x.setIf(0, 5, 2, 0), 4, 8, 1, 0);
        ends("a short branch and a long jump", x -> x.setIf(0, 2, 5, 0), 4, 7, 0, 1);
        ends("a long branch and a long jump", x -> x.setIf(0, 4, 5, 0), 4, 11, 1, 1);
        ends("a return", x -> x.setStop(0), 5, 1, 0, 0);
        EDGES.holds(21, "Throws IndexOutOfBoundsException if there is no such block");
        EDGES.indices(BlockLayout::new, "end(.., 0) of 1", 1, (y, b) -> y.end(b, 0));
        EDGES.indices(Programs::busy, "end(.., 1) of 5", 5, (y, b) -> y.end(b, 1));
        EDGES.indices(Programs::full, "end(.., 3) of 16", 16, (y, b) -> y.end(b, 3));
        EDGES.holds(21, "Throws IllegalArgumentException if what is not valid");
        EDGES.range(BlockLayout::new, "end(0, ..) of 1", 0, 3, Edges.ARGUMENT, (y, what) -> y.end(0, what));
        EDGES.range(Programs::busy, "end(4, ..)", 0, 3, Edges.ARGUMENT, (y, what) -> y.end(4, what));
    }

    private static void ends(String what, Change endOf0, int... due) {
        BlockLayout x = chain(0, 60, 60, 60, 60, 0);
        endOf0.on(x);
        for (int i = 0; i <= 3; i++) EDGES.due("end(0, " + i + ") of " + what, x.end(0, i), due[i]);
    }

    private static void layoutNumbers() {
        EDGES.holds(22, "what: 0 the address behind the last hot block with what its end needs; 1 the address behind all blocks; 2 "
            + "the number of hot blocks; 3 the number of bytes of all padding; 4 the number of long jumps and branches; 5 the sum "
            + "of the costs of all blocks in the layout; 6 the number of inverted branches; 7 the alignment; 8 the loop limit");
        int[] atFirst = {1, 1, 1, 0, 0, 0, 0, 1, 1};
        for (int what = 0; what <= 8; what++) {
            int i = what;
            EDGES.answers(BlockLayout::new, "layout(" + i + ") of a new object", x -> x.layout(i), atFirst[i]);
        }
        // 0 at 0 with 11 bytes and a long inverted branch to 1; 4 at 17 with 7 and a short one to 2; 3 at 26 with 60
        // and a short jump to 0; 2 at 128 with 33 and a long jump to 0; 1 at 166 with 60 and a return.
        int[] busy = {88, 227, 3, 40, 2, 5 + 3 + 2 + 9 + 4 + 6, 2, 8, 7};
        for (int what = 0; what <= 8; what++) {
            BlockLayout x = Programs.busy();
            x.setLoopLimit(7);
            EDGES.due("layout(" + what + ")", x.layout(what), busy[what]);
        }
        EDGES.holds(22, "Throws IllegalArgumentException if what is not valid");
        EDGES.range(BlockLayout::new, "layout of a new object", 0, 8, Edges.ARGUMENT, (x, what) -> x.layout(what));
        EDGES.range(Programs::busy, "layout", 0, 8, Edges.ARGUMENT, (x, what) -> x.layout(what));
        EDGES.range(Programs::full, "layout of 16", 0, 8, Edges.ARGUMENT, (x, what) -> x.layout(what));
    }
}
