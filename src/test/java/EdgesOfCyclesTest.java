/** The boundaries of promises 23 to 25, and those of cycles. */
public final class EdgesOfCyclesTest {
    private static final Edges EDGES = new Edges("EdgesOfCyclesTest");

    public static void main(String[] args) {
        goes();
        branches();
        returns();
        paddedBlocks();
        cyclesOfTheProfile();
        meanCycles();
        meanCyclesRefuses();
        leastCycles();
        lowestEnd();
        leastAlignment();
        alignmentStays();
        EDGES.finish();
    }

    /** Both ways to count: runLayout for one execution, and cycles for a profile of one. */
    private static void takes(String what, BlockLayout x, int cycles) {
        x.clearProfile();
        x.run(500);
        EDGES.due(what + ", by cycles", x.cycles(), cycles);
        EDGES.due(what + ", by runLayout", x.runLayout(500), cycles);
    }

    private static void goes() {
        EDGES.holds(0, "Going to the next block without a jump or branch takes 0 cycles.");
        BlockLayout x = Programs.ofBlocks(3);
        x.setGo(0, 1);
        takes("0 to 1", x, 0);
        x.setGo(1, 2);
        takes("0 to 1 to 2", x, 0);
        EDGES.holds(0, "A jump takes 2.");
        x.setHot(2);
        takes("a jump over the border of the sections", x, 2);
        x.setHot(1);
        takes("a jump over an earlier border", x, 2);
        x.setHot(3);
        x.exchange(1, 2);
        takes("two jumps in another order", x, 4);
        x.setGo(0, 2);
        takes("0 to 2, which stands behind it then", x, 0);
    }

    private static void branches() {
        EDGES.holds(0, "A branch or inverted branch takes 3 if it is taken and 1 if not.");
        // The condition is true once and then false, or false at once.
        for (int pattern = 0; pattern <= 1; pattern++) {
            BlockLayout x = Programs.ofBlocks(3);
            x.setIf(0, 2, 1, pattern);
            takes("a branch", x, pattern == 1 ? 3 : 1);
            x.invert(0);
            takes("an inverted branch", x, pattern == 1 ? 3 : 1);
            x.exchange(1, 2);
            takes("a branch with 2 next", x, pattern == 1 ? 1 : 3);
            x.invert(0);
            takes("an inverted branch with 2 next", x, pattern == 1 ? 1 : 3);
            x.setHot(1);
            takes("a branch and, if it is not taken, a jump", x, 3);
            x.invert(0);
            takes("the same with the blocks exchanged", x, 3);
        }
    }

    private static void returns() {
        EDGES.holds(0, "A return takes 0.");
        takes("a return alone", new BlockLayout(), 0);
        BlockLayout x = Programs.ofBlocks(16);
        for (int b = 0; b < 15; b++) x.setGo(b, b + 1);
        takes("15 blocks before it", x, 0);
    }

    /** Block 1, behind so many bytes, is a loop head that is entered once, by falling into it or otherwise. */
    private static BlockLayout loop(int bytesBefore) {
        BlockLayout x = Programs.selfLoop();
        x.setSize(0, bytesBefore);
        return x;
    }

    private static void paddedBlocks() {
        EDGES.holds(0, "When execution goes to the next block without a taken branch or jump, and this block has padding, 1 more is "
            + "taken.");
        for (int alignment : new int[] {1, 2, 4, 8, 16, 32}) {
            for (int before : new int[] {alignment - 1, alignment, alignment + 1, 0}) {
                BlockLayout x = loop(before);
                x.setAlignment(alignment);
                x.run(4);
                int padded = before % alignment == 0 ? 0 : 1;
                takes("nothing needed, " + before + " bytes before an alignment of " + alignment, x, 3 + 1 + padded);
            }
        }
        BlockLayout x = loop(1);
        x.setAlignment(32);
        x.setIf(0, 2, 1, 0);
        takes("a branch that is not taken", x, 1 + 1 + 3 + 1);
        x.invert(0);
        takes("an inverted branch that is not taken", x, 1 + 1 + 3 + 1);
        x.exchange(1, 2);
        takes("a taken branch to a block with padding", x, 3 + 3 + 3);
        EDGES.due("it has padding", x.place(1, 2) > 0, true);
        x.setGo(0, 1);
        takes("a jump to a block with padding", x, 2 + 3 + 3);
        BlockLayout cold = loop(1);
        cold.setHot(1);
        takes("a jump to the first cold block, whose padding is 61", cold, 2 + 3 + 1);
        EDGES.due("its padding", cold.place(1, 2), 61);
        cold.setAlignment(32);
        cold.setHot(3);
        cold.setLoopLimit(3);
        cold.clearProfile();
        cold.run(4);
        EDGES.due("a count of 2 below the limit of 3: no padding", cold.cycles(), 4);
        cold.setLoopLimit(2);
        EDGES.due("at the limit", cold.cycles(), 5);
    }

    private static void cyclesOfTheProfile() {
        EDGES.holds(23, "Returns the cycles that the layout takes in all for the profile: the sum of the costs of all blocks, and, "
            + "for each block with padding, the weights of the edges by which execution goes to it without a taken branch or jump.");
        EDGES.answers(BlockLayout::new, "without a profile", BlockLayout::cycles, 0);
        EDGES.answers(Programs::selfLoop, "without weights", BlockLayout::cycles, 0);
        BlockLayout x = loop(5);
        x.setAlignment(8);
        x.setLoopLimit(0);
        EDGES.due("padding without weights", x.cycles(), 0);
        for (int runs = 1; runs <= 3; runs++) {
            x.run(4);
            EDGES.due("after " + runs + " runs", x.cycles(), runs * 5);
            EDGES.due("as the costs with the padding", x.cycles(), x.layout(5) + runs);
        }
        x.setGo(0, 1);
        EDGES.due("the weight of 0>1 became 0", x.cycles(), 3 * 4);
        BlockLayout cold = Programs.fiveBlocks();
        cold.arrange(0, 2);
        EDGES.due("cold blocks count as well", cold.cycles(), 23 + 4);
        // Two blocks with padding: 1 is entered from 0, and 2 from 1; each goes to itself once.
        BlockLayout two = Programs.ofBlocks(4);
        two.setSize(0, 1);
        two.setGo(0, 1);
        two.setIf(1, 1, 2, 1);
        two.setIf(2, 2, 3, 1);
        two.setAlignment(16);
        two.run(6);
        EDGES.due("padding of 1", two.place(1, 2), 15);
        EDGES.due("padding of 2", two.place(2, 2), 14);
        EDGES.due("of two blocks with padding", two.cycles(), 3 + 1 + 3 + 1 + 1 + 1);
    }

    private static void meanCycles() {
        EDGES.holds(24, "Returns the mean cycles for each block that was executed in the profile: cycles as a double divided by the "
            + "sum of all counts as a double.");
        BlockLayout one = new BlockLayout();
        one.run(1);
        EDGES.due("0 cycles of 1 block", one.meanCycles(), 0.0);
        BlockLayout third = Programs.ofBlocks(3);
        third.setIf(0, 2, 1, 0);
        third.setGo(1, 2);
        third.run(3);
        EDGES.due("1 cycle of 3 blocks", third.meanCycles(), 1.0 / 3.0);
        third.setHot(1);
        EDGES.due("3 cycles of 3 blocks", third.meanCycles(), 1.0);
        third.setHot(2);
        EDGES.due("1 and 2 cycles of 3 blocks", third.meanCycles(), 1.0);
        BlockLayout x = loop(5);
        x.run(4);
        x.setAlignment(8);
        EDGES.due("5 cycles of 4 blocks, padding counted", x.meanCycles(), 1.25);
        x.setStop(1);
        EDGES.due("counts whose weights became 0", x.meanCycles(), 0.0);
    }

    private static void meanCyclesRefuses() {
        EDGES.holds(24, "Throws ArithmeticException if the sum of all counts is 0");
        EDGES.refused(BlockLayout::new, Edges.ARITHMETIC, "meanCycles() of a new object", BlockLayout::meanCycles);
        Edges.Maker cleared = () -> {
            BlockLayout x = Programs.busy();
            x.clearProfile();
            return x;
        };
        EDGES.refused(cleared, Edges.ARITHMETIC, "meanCycles() after clearProfile", BlockLayout::meanCycles);
        Edges.Maker layoutRun = () -> {
            BlockLayout x = Programs.selfLoop();
            x.runLayout(4);
            return x;
        };
        EDGES.refused(layoutRun, Edges.ARITHMETIC, "meanCycles() after runLayout alone", BlockLayout::meanCycles);
        EDGES.answers(Programs::busy, "meanCycles() with counts", x -> x.meanCycles() > 0, true);
    }

    private static final String BEST = "Returns the alignment, of 1, 2, 4, 8, 16 and 32, with which cycles is least, of several the "
        + "one with which the address behind all blocks is lowest, and of these the least alignment.";

    /**
     * Block 1 is hot and a loop head behind 5 bytes, 2 is cold and goes back to 1. The greater the alignment, the
     * nearer 1 comes to 2; the jump back is short if 1 stands at the due address or behind it.
     */
    private static BlockLayout wayBack(int dueAddress) {
        BlockLayout x = Programs.ofBlocks(3);
        x.setSize(0, 5);
        x.setSize(1, 60);
        x.setSize(2, dueAddress - 2);
        x.setGo(0, 1);
        x.setGo(1, 2);
        x.setGo(2, 1);
        x.setHot(2);
        x.setLoopLimit(0);
        return x;
    }

    private static void leastCycles() {
        EDGES.holds(25, BEST);
        BlockLayout x = Programs.ofBlocks(4);
        x.setSize(0, 5);
        x.setSize(1, 60);
        x.setSize(2, 8);
        x.setGo(0, 1);
        x.setGo(1, 2);
        x.setIf(2, 1, 3, 0);
        x.setHot(2);
        x.setLoopLimit(0);
        EDGES.due("without weights the end decides", x.bestAlignment(), 16);
        x.run(4);
        EDGES.due("with a weight into the padded block the cycles do", x.bestAlignment(), 1);
        x.setGo(0, 1);
        EDGES.due("without it the end does again", x.bestAlignment(), 16);
        BlockLayout y = loop(8);
        y.run(4);
        EDGES.due("a loop head that stands at 8", y.bestAlignment(), 1);
    }

    private static void lowestEnd() {
        EDGES.holds(25, BEST);
        // Block 1 stands at 5, 6, 8, 8, 16 and 32 with the six alignments; 1 byte makes the way back long.
        int[][] due = {{5, 1}, {6, 2}, {7, 4}, {8, 4}, {9, 16}, {16, 16}, {17, 32}, {32, 32}, {33, 1}};
        for (int[] pair : due) {
            EDGES.answers(() -> wayBack(pair[0]), "a way back that is short from " + pair[0] + " on", BlockLayout::bestAlignment,
                pair[1]);
        }
    }

    private static void leastAlignment() {
        EDGES.holds(25, BEST);
        EDGES.answers(BlockLayout::new, "one block, all the same", BlockLayout::bestAlignment, 1);
        EDGES.answers(() -> Programs.ofBlocks(16), "no loop head, all the same", BlockLayout::bestAlignment, 1);
        EDGES.answers(() -> wayBack(5), "the end is the same with all", BlockLayout::bestAlignment, 1);
        EDGES.answers(() -> wayBack(7), "4 and 8 are the same", BlockLayout::bestAlignment, 4);
        EDGES.answers(() -> wayBack(9), "16 and 32 are the same", BlockLayout::bestAlignment, 16);
        BlockLayout x = wayBack(9);
        x.setLoopLimit(1);
        EDGES.due("below the loop limit nothing is aligned", x.bestAlignment(), 1);
    }

    private static void alignmentStays() {
        EDGES.holds(25, "The alignment does not change.");
        for (int alignment : new int[] {1, 2, 4, 8, 16, 32}) {
            Edges.Maker maker = () -> {
                BlockLayout x = wayBack(17);
                x.setAlignment(alignment);
                return x;
            };
            EDGES.leaves(maker, "bestAlignment() with " + alignment, BlockLayout::bestAlignment, 32, maker);
        }
        EDGES.leaves(Programs::busy, "bestAlignment()", BlockLayout::bestAlignment, 1, Programs::busy);
    }
}
