/** Promises 9 to 13: executions and the profile. */
public final class ExecutionTest {
    private static final Check CHECK = new Check("ExecutionTest");
    private static final int[] NO_LIMITS = {0, -1, 501, Integer.MIN_VALUE, Integer.MAX_VALUE};

    public static void main(String[] args) {
        run();
        runTooLong();
        patternsHave32Bits();
        runLayout();
        cyclesOfForms();
        path();
        clearProfile();
        CHECK.finish();
    }

    private static void run() {
        BlockLayout x = Programs.fiveBlocks();
        int[] counts = {6, 1, 3, 2, 5};
        for (int b = 0; b < 5; b++) {
            CHECK.due("block(" + b + ", 4)", x.block(b, 4), counts[b]);
        }
        CHECK.due("0>4", x.block(0, 5), 5);
        CHECK.due("0>1", x.block(0, 6), 1);
        CHECK.due("4>3", x.block(4, 5), 2);
        CHECK.due("4>2", x.block(4, 6), 3);
        CHECK.due("3>0", x.block(3, 5), 2);
        CHECK.due("2>0", x.block(2, 5), 3);
        CHECK.due("run(500)", x.run(500), 17);
        CHECK.due("counts add up", x.block(0, 4), 12);
        CHECK.due("weights add up", x.block(0, 5), 10);
    }

    private static void runTooLong() {
        BlockLayout x = Programs.fiveBlocks();
        for (int limit : NO_LIMITS) {
            CHECK.fails("run(" + limit + ")", IllegalArgumentException.class, () -> x.run(limit));
        }
        CHECK.fails("run(16)", ArithmeticException.class, () -> x.run(16));
        CHECK.fails("run(1)", ArithmeticException.class, () -> x.run(1));
        CHECK.due("run(17)", x.run(17), 17);
        x.setGo(1, 1);
        CHECK.fails("run(500) without end", ArithmeticException.class, () -> x.run(500));
        CHECK.fails("run(501) without end", IllegalArgumentException.class, () -> x.run(501));
    }

    /** Block 0 leaves its own loop at bit 31, and block 1 sends it there a second time: 32 1 32 1 1. */
    private static void patternsHave32Bits() {
        BlockLayout x = new BlockLayout();
        x.clear(3);
        x.setIf(0, 0, 1, 0x7fffffff);
        x.setIf(1, 0, 2, 1);
        CHECK.due("run(500)", x.run(500), 67);
        CHECK.due("block(0, 5)", x.block(0, 5), 62);
        CHECK.due("block(0, 6)", x.block(0, 6), 2);
        CHECK.due("pathBlock(32)", x.pathBlock(32), 1);
        CHECK.due("pathBlock(65)", x.pathBlock(65), 1);
        CHECK.due("an execution begins with the first time anew", x.run(67), 67);
    }

    private static void runLayout() {
        BlockLayout x = Programs.selfLoop();
        CHECK.due("runLayout(4): a branch to itself taken and not taken", x.runLayout(4), 4);
        CHECK.due("no profile", x.block(1, 4), 0);
        CHECK.due("no weight", x.block(1, 5), 0);
        CHECK.due("pathLength()", x.pathLength(), 4);
        x.setAlignment(16);
        CHECK.due("a loop head that was not counted has no padding", x.runLayout(4), 4);
        x.run(4);
        CHECK.due("1 more for the padding", x.runLayout(4), 5);
        for (int limit : NO_LIMITS) {
            CHECK.fails("runLayout(" + limit + ")", IllegalArgumentException.class, () -> x.runLayout(limit));
        }
        CHECK.fails("runLayout(3)", ArithmeticException.class, () -> x.runLayout(3));
        CHECK.due("runLayout(500)", x.runLayout(500), 5);
        x.setGo(2, 0);
        CHECK.fails("runLayout(500) without end", ArithmeticException.class, () -> x.runLayout(500));
    }

    private static void cyclesOfForms() {
        BlockLayout x = new BlockLayout();
        x.clear(4);
        CHECK.due("a return", x.runLayout(1), 0);
        x.setGo(0, 1);
        CHECK.due("the next block", x.runLayout(2), 0);
        x.setGo(0, 2);
        CHECK.due("a jump", x.runLayout(2), 2);
        x.setIf(0, 2, 1, 1);
        CHECK.due("a branch that is taken", x.runLayout(2), 3);
        x.setIf(0, 2, 1, 0);
        CHECK.due("a branch that is not taken", x.runLayout(2), 1);
        x.setIf(0, 1, 2, 0);
        CHECK.due("an inverted branch that is taken", x.runLayout(2), 3);
        x.setIf(0, 1, 2, 1);
        CHECK.due("an inverted branch that is not taken", x.runLayout(2), 1);
        x.setIf(0, 2, 3, 1);
        CHECK.due("a branch before a jump", x.runLayout(2), 3);
        x.setIf(0, 2, 3, 0);
        CHECK.due("a jump behind a branch", x.runLayout(2), 3);
        x.setGo(0, 1);
        x.setHot(1);
        CHECK.due("a jump to the other section", x.runLayout(2), 2);
    }

    private static void path() {
        BlockLayout x = Programs.selfLoop();
        CHECK.due("pathLength() before", x.pathLength(), 0);
        CHECK.fails("pathBlock(0) before", IndexOutOfBoundsException.class, () -> x.pathBlock(0));
        x.run(4);
        CHECK.due("the path of run", Check.path(x), "0 1 1 2");
        for (int i : new int[] {-1, 4, 500, Integer.MIN_VALUE, Integer.MAX_VALUE}) {
            CHECK.fails("pathBlock(" + i + ")", IndexOutOfBoundsException.class, () -> x.pathBlock(i));
        }
        x.setIf(1, 0, 2, 1);
        x.runLayout(5);
        CHECK.due("the path of runLayout", Check.path(x), "0 1 0 1 2");
        x.setGo(0, 2);
        x.setGo(2, 2);
        CHECK.due("run(9)", Check.outcome(() -> x.run(9)), "ArithmeticException");
        CHECK.due("runLayout(9)", Check.outcome(() -> x.runLayout(9)), "ArithmeticException");
        CHECK.due("the path after executions that failed", Check.path(x), "0 1 0 1 2");
        x.setStop(2);
        x.run(2);
        CHECK.due("a shorter path", Check.path(x), "0 2");
        CHECK.fails("pathBlock(2)", IndexOutOfBoundsException.class, () -> x.pathBlock(2));
    }

    private static void clearProfile() {
        BlockLayout x = Programs.fiveBlocks();
        CHECK.due("clearProfile()", x.clearProfile(), 17);
        for (int b = 0; b < 5; b++) {
            for (int what = 4; what <= 6; what++) {
                CHECK.due("block(" + b + ", " + what + ")", x.block(b, what), 0);
            }
        }
        CHECK.due("cycles()", x.cycles(), 0);
        CHECK.due("an end stays", x.block(0, 2), 4);
        CHECK.due("the path stays", x.pathLength(), 17);
        CHECK.due("clearProfile() once more", x.clearProfile(), 0);
        x.run(17);
        x.setStop(3);
        CHECK.due("counts of changed blocks are in the sum", x.clearProfile(), 17);
    }
}
