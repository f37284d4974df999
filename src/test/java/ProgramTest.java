/** Promises 1 to 8: a new object, and the program. */
public final class ProgramTest {
    private static final Check CHECK = new Check("ProgramTest");
    private static final Class<?> INDEX = IndexOutOfBoundsException.class;
    private static final Class<?> ARGUMENT = IllegalArgumentException.class;
    private static final int[] NO_BLOCK_OF_THREE = {-1, 3, 15, 16, 17, Integer.MIN_VALUE, Integer.MAX_VALUE};

    public static void main(String[] args) {
        newObject();
        clear();
        clearKeeps();
        setSize();
        setGo();
        setIf();
        setStop();
        invert();
        block();
        loopHeads();
        CHECK.finish();
    }

    private static void newObject() {
        BlockLayout x = new BlockLayout();
        int[] due = {0, 2, -1, -1, 0, 0, 0, 0};
        for (int what = 0; what <= 7; what++) {
            CHECK.due("block(0, " + what + ") of a new object", x.block(0, what), due[what]);
        }
        CHECK.fails("block(1, 0) of a new object", INDEX, () -> x.block(1, 0));
        CHECK.due("order(0)", x.order(0), 0);
        CHECK.due("layout(1), a return alone", x.layout(1), 1);
        CHECK.due("layout(2)", x.layout(2), 1);
        CHECK.due("layout(7)", x.layout(7), 1);
        CHECK.due("layout(8)", x.layout(8), 1);
        CHECK.due("pathLength()", x.pathLength(), 0);
        CHECK.due("cycles()", x.cycles(), 0);
        CHECK.due("run(1)", x.run(1), 1);
    }

    private static void clear() {
        BlockLayout x = Programs.selfLoop();
        x.run(10);
        for (int blocks : new int[] {0, -1, 17, Integer.MIN_VALUE, Integer.MAX_VALUE}) {
            CHECK.fails("clear(" + blocks + ")", ARGUMENT, () -> x.clear(blocks));
        }
        x.exchange(1, 2);
        x.setHot(2);
        CHECK.due("clear(4)", x.clear(4), 3);
        for (int b = 0; b < 4; b++) {
            int[] due = {0, 2, -1, -1, 0, 0, 0, 0};
            for (int what = 0; what <= 7; what++) {
                CHECK.due("block(" + b + ", " + what + ") after clear", x.block(b, what), due[what]);
            }
        }
        CHECK.due("the order after clear", Check.order(x), "0 1 2 3");
        CHECK.due("layout(2) after clear", x.layout(2), 4);
        CHECK.fails("undo() after clear", java.util.NoSuchElementException.class, x::undo);
        CHECK.due("clear(16)", x.clear(16), 4);
        CHECK.due("order(15)", x.order(15), 15);
        CHECK.due("clear(1)", x.clear(1), 16);
        CHECK.fails("order(1)", INDEX, () -> x.order(1));
    }

    private static void clearKeeps() {
        BlockLayout x = Programs.selfLoop();
        x.run(10);
        x.setAlignment(8);
        x.setLoopLimit(7);
        x.feed('7');
        x.clear(1);
        CHECK.due("the alignment after clear", x.layout(7), 8);
        CHECK.due("the loop limit after clear", x.layout(8), 7);
        CHECK.due("the path after clear", Check.path(x), "0 1 1 2");
        CHECK.due("the input after clear", x.feed(' '), 2);
    }

    private static void setSize() {
        BlockLayout x = Programs.selfLoop();
        x.run(10);
        CHECK.due("setSize(2, 60)", x.setSize(2, 60), 0);
        CHECK.due("setSize(2, 59)", x.setSize(2, 59), 60);
        CHECK.due("setSize(2, 0)", x.setSize(2, 0), 59);
        CHECK.due("setSize(1, 9)", x.setSize(1, 9), 3);
        CHECK.due("block(1, 0)", x.block(1, 0), 9);
        CHECK.due("a weight stays", x.block(1, 5), 1);
        CHECK.due("a kind stays", x.block(1, 1), 1);
        for (int size : new int[] {-1, 61, Integer.MIN_VALUE, Integer.MAX_VALUE}) {
            CHECK.fails("setSize(0, " + size + ")", ARGUMENT, () -> x.setSize(0, size));
        }
        for (int b : NO_BLOCK_OF_THREE) {
            CHECK.fails("setSize(" + b + ", 1)", INDEX, () -> x.setSize(b, 1));
            CHECK.fails("setSize(" + b + ", 61)", INDEX, () -> x.setSize(b, 61));
        }
    }

    private static void setGo() {
        BlockLayout x = Programs.selfLoop();
        x.run(10);
        CHECK.due("setGo(1, 2)", x.setGo(1, 2), 1);
        CHECK.due("kind", x.block(1, 1), 0);
        CHECK.due("target", x.block(1, 2), 2);
        CHECK.due("no second block", x.block(1, 3), -1);
        CHECK.due("the count stays", x.block(1, 4), 2);
        CHECK.due("weight of the edge", x.block(1, 5), 0);
        CHECK.due("weight of no second edge", x.block(1, 6), 0);
        CHECK.due("the weight of another block's edge", x.block(0, 5), 1);
        CHECK.due("setGo(0, 1) once more", x.setGo(0, 1), 0);
        CHECK.due("its weight becomes 0", x.block(0, 5), 0);
        CHECK.due("setGo(2, 2)", x.setGo(2, 2), 2);
        for (int b : NO_BLOCK_OF_THREE) {
            CHECK.fails("setGo(" + b + ", 0)", INDEX, () -> x.setGo(b, 0));
            CHECK.fails("setGo(0, " + b + ")", INDEX, () -> x.setGo(0, b));
        }
    }

    private static void setIf() {
        BlockLayout x = Programs.selfLoop();
        x.run(10);
        CHECK.due("setIf(1, 2, 0, 0)", x.setIf(1, 2, 0, 0), 1);
        CHECK.due("kind", x.block(1, 1), 1);
        CHECK.due("first", x.block(1, 2), 2);
        CHECK.due("second", x.block(1, 3), 0);
        CHECK.due("the count stays", x.block(1, 4), 2);
        CHECK.due("weight of the first edge", x.block(1, 5), 0);
        CHECK.due("weight of the second edge", x.block(1, 6), 0);
        CHECK.due("setIf(0, 1, 2, 5)", x.setIf(0, 1, 2, 5), 0);
        CHECK.due("setIf(2, 0, 2, 5)", x.setIf(2, 0, 2, 5), 2);
        CHECK.fails("setIf(0, 1, 1, 0)", ARGUMENT, () -> x.setIf(0, 1, 1, 0));
        CHECK.fails("setIf(0, 0, 0, 0)", ARGUMENT, () -> x.setIf(0, 0, 0, 0));
        for (int b : NO_BLOCK_OF_THREE) {
            CHECK.fails("setIf(" + b + ", 0, 1, 0)", INDEX, () -> x.setIf(b, 0, 1, 0));
            CHECK.fails("setIf(" + b + ", 1, 1, 0)", INDEX, () -> x.setIf(b, 1, 1, 0));
            CHECK.fails("setIf(0, " + b + ", 1, 0)", INDEX, () -> x.setIf(0, b, 1, 0));
            CHECK.fails("setIf(0, 1, " + b + ", 0)", INDEX, () -> x.setIf(0, 1, b, 0));
            CHECK.fails("setIf(0, " + b + ", " + b + ", 0)", INDEX, () -> x.setIf(0, b, b, 0));
        }
    }

    private static void setStop() {
        BlockLayout x = Programs.selfLoop();
        x.run(10);
        CHECK.due("setStop(1)", x.setStop(1), 1);
        CHECK.due("kind", x.block(1, 1), 2);
        CHECK.due("no first block", x.block(1, 2), -1);
        CHECK.due("no second block", x.block(1, 3), -1);
        CHECK.due("the count stays", x.block(1, 4), 2);
        CHECK.due("no first weight", x.block(1, 5), 0);
        CHECK.due("no second weight", x.block(1, 6), 0);
        CHECK.due("setStop(0)", x.setStop(0), 0);
        CHECK.due("setStop(0) once more", x.setStop(0), 2);
        for (int b : NO_BLOCK_OF_THREE) {
            CHECK.fails("setStop(" + b + ")", INDEX, () -> x.setStop(b));
        }
    }

    private static void invert() {
        BlockLayout x = Programs.fiveBlocks();
        CHECK.due("invert(0)", x.invert(0), 1);
        CHECK.due("first", x.block(0, 2), 1);
        CHECK.due("second", x.block(0, 3), 4);
        CHECK.due("the weight stays with the first edge", x.block(0, 5), 1);
        CHECK.due("the weight stays with the second edge", x.block(0, 6), 5);
        CHECK.due("the count stays", x.block(0, 4), 6);
        CHECK.due("run(17) goes the same way", x.run(17), 17);
        CHECK.due("weights added to the inverted end", x.block(0, 6), 10);
        CHECK.due("invert(0) back", x.invert(0), 4);
        CHECK.due("invert(4)", x.invert(4), 2);
        CHECK.due("run(17) with another block inverted", x.run(17), 17);
        CHECK.due("the path", Check.path(x), "0 4 3 0 4 3 0 4 2 0 4 2 0 4 2 0 1");
        CHECK.fails("invert(1) of a stop", UnsupportedOperationException.class, () -> x.invert(1));
        CHECK.fails("invert(2) of a go", UnsupportedOperationException.class, () -> x.invert(2));
        for (int b : new int[] {-1, 5, 16, Integer.MIN_VALUE, Integer.MAX_VALUE}) {
            CHECK.fails("invert(" + b + ")", INDEX, () -> x.invert(b));
        }
        allBitsAreInverted();
    }

    /** Only bit 31 of the pattern leads out, so that a bit that was not inverted would show. */
    private static void allBitsAreInverted() {
        BlockLayout x = new BlockLayout();
        x.clear(2);
        x.setIf(0, 1, 0, 0x80000000);
        CHECK.due("run(33)", x.run(33), 33);
        x.invert(0);
        CHECK.due("run(33) inverted", x.run(33), 33);
    }

    private static void block() {
        BlockLayout x = Programs.selfLoop();
        x.run(10);
        int[][] due = {{5, 0, 1, -1, 1, 1, 0, 0}, {3, 1, 1, 2, 2, 1, 1, 1}, {0, 2, -1, -1, 1, 0, 0, 0}};
        for (int b = 0; b < 3; b++) {
            for (int what = 0; what <= 7; what++) {
                CHECK.due("block(" + b + ", " + what + ")", x.block(b, what), due[b][what]);
            }
        }
        for (int what : new int[] {-1, 8, Integer.MIN_VALUE, Integer.MAX_VALUE}) {
            CHECK.fails("block(0, " + what + ")", ARGUMENT, () -> x.block(0, what));
            CHECK.fails("block(3, " + what + ")", INDEX, () -> x.block(3, what));
        }
        for (int b : NO_BLOCK_OF_THREE) {
            CHECK.fails("block(" + b + ", 0)", INDEX, () -> x.block(b, 0));
        }
    }

    private static void loopHeads() {
        BlockLayout x = new BlockLayout();
        x.clear(6);
        x.setIf(0, 1, 2, 0);
        x.setGo(1, 3);
        x.setGo(2, 3);
        x.setIf(3, 1, 4, 0);
        x.setGo(4, 0);
        x.setGo(5, 5);
        CHECK.due("0, to which 4 goes", x.block(0, 7), 1);
        CHECK.due("1, which 3 reaches round it too", x.block(1, 7), 0);
        CHECK.due("3, to which no block behind it goes", x.block(3, 7), 0);
        CHECK.due("5, which is not reached", x.block(5, 7), 0);
        x.setStop(2);
        CHECK.due("1, since 2 does not go to 3", x.block(1, 7), 1);
        CHECK.due("3, round which 1 is reached", x.block(3, 7), 0);
        x.setGo(0, 5);
        CHECK.due("5, which goes to itself and is reached", x.block(5, 7), 1);
        CHECK.due("1, which is not reached", x.block(1, 7), 0);
        CHECK.due("0, to which no reached block goes", x.block(0, 7), 0);
        x.setGo(0, 0);
        CHECK.due("0, which goes to itself", x.block(0, 7), 1);
    }
}
