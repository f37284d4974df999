/** The boundaries of promises 9 to 13, and those of patterns and executions. */
public final class EdgesOfExecutionTest {
    private static final Edges EDGES = new Edges("EdgesOfExecutionTest");

    public static void main(String[] args) {
        patterns();
        beginning();
        greatestNumbers();
        runAnswers();
        runRefusesLimits();
        runRefusesLongerOnes();
        runLayoutKeepsTheProfile();
        runLayoutAnswers();
        runLayoutRefuses();
        pathLength();
        pathBlock();
        clearProfile();
        manyCalls();
        EDGES.finish();
    }

    private static void patterns() {
        EDGES.holds(0, "An end of kind 1 has a pattern, an int: when the block is executed for the k-th time in an execution, "
            + "k being 0 for the first time, the condition is true if bit k modulo 32 of the pattern is 1.");
        int[] patterns = {0, 1, 2, 0x40000000, 0x80000000, -1, -2, 0x7fffffff, 0x80000001, 0x00010000};
        for (int pattern : patterns) {
            BlockLayout x = Programs.conditions(pattern);
            EDGES.due("run(292) of 96 conditions", x.run(292), 292);
            for (int k : new int[] {0, 1, 2, 15, 16, 17, 30, 31, 32, 33, 48, 62, 63, 64, 65, 80, 94, 95}) {
                boolean want = (pattern >>> (k % 32)) % 2 != 0;
                EDGES.due("pattern " + pattern + ", time " + k, Programs.conditionAt(x, k), want);
            }
        }
        everyExecutionBeginsAnew();
    }

    private static void everyExecutionBeginsAnew() {
        BlockLayout x = Programs.lasting(3);
        EDGES.due("run(3)", x.run(3), 3);
        EDGES.due("run(3), k being 0 once more", x.run(3), 3);
        EDGES.due("runLayout(3), k being 0 once more", Check.outcome(() -> x.runLayout(3)), 3 + 1);
        EDGES.due("run(1)", Check.outcome(() -> x.run(1)), "ArithmeticException");
        EDGES.due("run(3) after one that threw", x.run(3), 3);
    }

    private static void beginning() {
        EDGES.holds(0, "An execution begins with block 0.");
        BlockLayout x = Programs.busy();
        x.run(17);
        EDGES.due("the first block of run", x.pathBlock(0), 0);
        x.runLayout(17);
        EDGES.due("the first block of runLayout", x.pathBlock(0), 0);
        BlockLayout y = Programs.ofBlocks(16);
        y.setGo(15, 0);
        EDGES.due("0 stops, whatever goes to it", y.run(1), 1);
        EDGES.due("it is executed", y.block(0, 4), 1);
        EDGES.due("15 is not", y.block(15, 4), 0);
    }

    private static void greatestNumbers() {
        String limit = "limit: the greatest number of blocks that may be executed";
        for (int executed : new int[] {2, 33, 499, 500}) {
            EDGES.holds(9, limit);
            EDGES.answers(() -> Programs.lasting(executed), "run of one more", x -> x.run(executed - 1), "ArithmeticException");
            EDGES.answers(() -> Programs.lasting(executed), "run of as many", x -> x.run(executed), executed);
            EDGES.answers(() -> Programs.lasting(executed), "run of fewer", x -> x.run(500), executed);
            EDGES.holds(10, limit);
            int cycles = Programs.lasting(executed).runLayout(500);
            EDGES.answers(() -> Programs.lasting(executed), "runLayout of one more", x -> x.runLayout(executed - 1),
                "ArithmeticException");
            EDGES.answers(() -> Programs.lasting(executed), "runLayout of as many", x -> x.runLayout(executed), cycles);
        }
    }

    private static void runAnswers() {
        EDGES.holds(9, "Returns the number of blocks that are executed.");
        for (int executed : new int[] {1, 2, 3, 32, 33, 482, 499, 500}) {
            EDGES.answers(() -> Programs.lasting(executed), "run(500) of " + executed, x -> x.run(500), executed);
            EDGES.answers(() -> Programs.lasting(executed), "run(" + executed + ")", x -> x.run(executed), executed);
        }
    }

    private static void runRefusesLimits() {
        EDGES.holds(9, "Throws IllegalArgumentException if limit is not from 1 to 500");
        EDGES.range(BlockLayout::new, "run of 1 block", 1, 500, Edges.ARGUMENT, (x, limit) -> x.run(limit));
        for (int limit : new int[] {0, 501, -1, Edges.LEAST, Edges.MOST}) {
            EDGES.refused(Programs::busy, Edges.ARGUMENT, "run(" + limit + ") of 17", x -> x.run(limit));
            EDGES.refused(Programs::full, Edges.ARGUMENT, "run(" + limit + ") of 500", x -> x.run(limit));
        }
    }

    /** The program goes other ways than the path of the latest execution, and never stops. */
    private static BlockLayout endless() {
        BlockLayout x = Programs.busy();
        x.setGo(0, 2);
        x.setGo(2, 3);
        return x;
    }

    private static void runRefusesLongerOnes() {
        EDGES.holds(9, "Throws ArithmeticException if the limit is not enough");
        notEnough("run", (x, limit) -> x.run(limit));
        for (int executed : new int[] {2, 33, 500}) {
            BlockLayout x = Programs.lasting(executed);
            EDGES.due("run with 1 less", Check.outcome(() -> x.run(executed - 1)), "ArithmeticException");
            EDGES.due("counts after it", x.clearProfile(), 0);
            EDGES.due("run with so many", x.run(executed), executed);
            EDGES.due("counts after that", x.clearProfile(), executed);
        }
    }

    /** Programs of so many blocks with limits on both sides of that. */
    private static void notEnough(String what, Edges.NumberCall call) {
        for (int executed : new int[] {2, 3, 33, 499, 500, 501, 513}) {
            Edges.Maker maker = () -> Programs.lasting(executed);
            for (int limit : new int[] {1, executed - 1, 500}) {
                if (limit < executed && limit <= 500) {
                    EDGES.refused(maker, Edges.ARITHMETIC, what + "(" + limit + ") of " + executed, x -> call.on(x, limit));
                }
            }
            for (int limit : new int[] {executed, executed + 1, 500}) {
                if (limit >= executed && limit <= 500) {
                    Object got = Check.outcome(() -> call.on(maker.make(), limit));
                    EDGES.due(what + "(" + limit + ") of " + executed + " is answered", got instanceof Integer, true);
                }
            }
        }
        EDGES.refused(Programs::busy, Edges.ARITHMETIC, what + "(16) of 17", x -> call.on(x, 16));
        EDGES.refused(EdgesOfExecutionTest::endless, Edges.ARITHMETIC, what + "(500) of no end", x -> call.on(x, 500));
        EDGES.refused(EdgesOfExecutionTest::endless, Edges.ARITHMETIC, what + "(1) of no end", x -> call.on(x, 1));
    }

    private static void runLayoutKeepsTheProfile() {
        EDGES.holds(10, "Executes the layout without changing the profile.");
        BlockLayout x = Programs.lasting(33);
        x.runLayout(33);
        EDGES.due("no count at first", x.block(0, 4), 0);
        EDGES.due("no weight at first", x.block(0, 5), 0);
        x.run(33);
        x.runLayout(33);
        EDGES.due("the count stays", x.block(0, 4), 32);
        EDGES.due("the weight stays", x.block(0, 5), 31);
        EDGES.due("the sum stays", x.clearProfile(), 33);
    }

    private static void runLayoutAnswers() {
        EDGES.holds(10, "Returns the number of cycles.");
        EDGES.answers(BlockLayout::new, "runLayout(1) of a return", x -> x.runLayout(1), 0);
        EDGES.answers(() -> Programs.lasting(2), "runLayout(2) of a branch that is not taken", x -> x.runLayout(2), 1);
        EDGES.answers(() -> Programs.lasting(33), "runLayout(33), 31 taken", x -> x.runLayout(33), 31 * 3 + 1);
        // 32 times round: 0 to itself 3 and on 1, 12 falls; back 31 times 3 and on 1; then 14 18 times, and out.
        EDGES.answers(() -> Programs.lasting(500), "runLayout(500)", x -> x.runLayout(500),
            32 * (3 + 1) + 31 * 3 + 1 + 18 * 3 + 1);
    }

    private static void runLayoutRefuses() {
        EDGES.holds(10, "Throws IllegalArgumentException if limit is not from 1 to 500");
        EDGES.range(BlockLayout::new, "runLayout of 1 block", 1, 500, Edges.ARGUMENT, (x, limit) -> x.runLayout(limit));
        for (int limit : new int[] {0, 501, -1, Edges.LEAST, Edges.MOST}) {
            EDGES.refused(Programs::busy, Edges.ARGUMENT, "runLayout(" + limit + ") of 17", x -> x.runLayout(limit));
            EDGES.refused(Programs::full, Edges.ARGUMENT, "runLayout(" + limit + ") of 500", x -> x.runLayout(limit));
        }
        EDGES.holds(10, "Throws ArithmeticException if the limit is not enough");
        notEnough("runLayout", (x, limit) -> x.runLayout(limit));
    }

    private static void pathLength() {
        EDGES.holds(11, "Returns the number of blocks that the latest execution, by run or runLayout, that did not throw an "
            + "exception executed.");
        BlockLayout x = Programs.lasting(33);
        EDGES.due("run(33)", x.run(33), 33);
        EDGES.due("after run", x.pathLength(), 33);
        x.setIf(0, 0, 1, 1);
        EDGES.due("after a change of the program", x.pathLength(), 33);
        EDGES.due("run(2)", Check.outcome(() -> x.run(2)), "ArithmeticException");
        EDGES.due("after a run that threw", x.pathLength(), 33);
        EDGES.due("runLayout(2)", Check.outcome(() -> x.runLayout(2)), "ArithmeticException");
        EDGES.due("runLayout(0)", Check.outcome(() -> x.runLayout(0)), "IllegalArgumentException");
        EDGES.due("after a runLayout that threw", x.pathLength(), 33);
        x.runLayout(3);
        EDGES.due("after runLayout", x.pathLength(), 3);
        x.setStop(0);
        x.run(1);
        EDGES.due("after a run of a block", x.pathLength(), 1);
        EDGES.answers(Programs::full, "of 500", BlockLayout::pathLength, 500);
        EDGES.holds(11, "Returns the number of blocks, 0 before.");
        EDGES.answers(BlockLayout::new, "before", BlockLayout::pathLength, 0);
        BlockLayout y = Programs.lasting(2);
        EDGES.due("run(1)", Check.outcome(() -> y.run(1)), "ArithmeticException");
        EDGES.due("before, but for one that threw", y.pathLength(), 0);
    }

    private static void pathBlock() {
        EDGES.holds(12, "Returns a block of the latest execution that did not throw an exception.");
        BlockLayout x = Programs.lasting(500);
        x.run(500);
        int[][] due = {{0, 0}, {1, 0}, {2, 1}, {14, 13}, {15, 0}, {479, 13}, {480, 14}, {498, 14}, {499, 15}};
        for (int[] pair : due) EDGES.due("pathBlock(" + pair[0] + ")", x.pathBlock(pair[0]), pair[1]);
        EDGES.due("run(499)", Check.outcome(() -> x.run(499)), "ArithmeticException");
        EDGES.due("the last one after a run that threw", x.pathBlock(499), 15);
        x.setGo(0, 14);
        EDGES.due("run(3)", Check.outcome(() -> x.run(3)), "ArithmeticException");
        EDGES.due("the second one after a run another way that threw", x.pathBlock(1), 0);
        EDGES.due("runLayout(3)", Check.outcome(() -> x.runLayout(3)), "ArithmeticException");
        EDGES.due("the second one after a runLayout that threw", x.pathBlock(1), 0);
        x.setGo(0, 15);
        x.runLayout(2);
        EDGES.due("the second one after another way", x.pathBlock(1), 15);
        EDGES.due("nothing behind a shorter way", Check.outcome(() -> x.pathBlock(2)), "IndexOutOfBoundsException");
        EDGES.holds(12, "i: the index, from 0");
        EDGES.answers(Programs::busy, "pathBlock(0)", y -> y.pathBlock(0), 0);
        EDGES.answers(Programs::busy, "pathBlock(1)", y -> y.pathBlock(1), 4);
        EDGES.answers(Programs::busy, "pathBlock(16)", y -> y.pathBlock(16), 1);
        EDGES.holds(12, "Throws IndexOutOfBoundsException if so many blocks were not executed");
        for (int i : new int[] {0, 1, -1, Edges.LEAST, Edges.MOST}) {
            EDGES.refused(BlockLayout::new, Edges.INDEX, "pathBlock(" + i + ") before", y -> y.pathBlock(i));
        }
        EDGES.indices(Programs::busy, "pathBlock of 17", 17, (y, i) -> y.pathBlock(i));
        EDGES.indices(Programs::full, "pathBlock of 500", 500, (y, i) -> y.pathBlock(i));
    }

    private static void clearProfile() {
        EDGES.holds(13, "Makes all counts and weights 0.");
        BlockLayout x = Programs.busy();
        x.clearProfile();
        for (int b = 0; b < 5; b++) {
            for (int what = 4; what <= 6; what++) EDGES.due("block(" + b + ", " + what + ")", x.block(b, what), 0);
        }
        EDGES.due("a size stays", x.block(1, 0), 60);
        EDGES.due("the path stays", x.pathLength(), 17);
        EDGES.due("run(17)", x.run(17), 17);
        EDGES.due("a weight counts from 0 on", x.block(0, 5), 5);
        EDGES.holds(13, "Returns the sum of all counts.");
        EDGES.answers(BlockLayout::new, "of no execution", BlockLayout::clearProfile, 0);
        BlockLayout y = Programs.lasting(500);
        y.run(500);
        y.run(500);
        y.setStop(0);
        y.setStop(15);
        EDGES.due("of two executions, ends changed", y.clearProfile(), 1000);
        EDGES.due("once more", y.clearProfile(), 0);
        y.run(1);
        EDGES.due("of a block", y.clearProfile(), 1);
    }

    /** Nearly as many executions as an object has calls; LifeTest goes on to the 512th. */
    private static void manyCalls() {
        EDGES.holds(9, "Executes the program and adds to the profile.");
        BlockLayout x = Programs.lasting(500);
        for (int i = 0; i < 480; i++) x.run(500);
        EDGES.due("the count of 0", x.block(0, 4), 480 * 64);
        EDGES.due("the weight of 13>0", x.block(13, 5), 480 * 31);
        EDGES.due("cycles()", x.cycles(), 480 * x.runLayout(500));
        EDGES.due("meanCycles()", x.meanCycles(), 277.0 / 500.0);
        EDGES.due("clearProfile()", x.clearProfile(), 480 * 500);
    }
}
