/** Promises 14, 15 and 17 to 22: the layout, its ends and its addresses. */
public final class LayoutTest {
    private static final Check CHECK = new Check("LayoutTest");
    private static final Class<?> INDEX = IndexOutOfBoundsException.class;
    private static final Class<?> ARGUMENT = IllegalArgumentException.class;
    private static final int[] FAR_OUT = {-1, Integer.MIN_VALUE, Integer.MAX_VALUE};

    public static void main(String[] args) {
        setAlignment();
        alignedLoopHeads();
        setLoopLimit();
        exchange();
        setHot();
        order();
        place();
        coldSection();
        endForms();
        endBytes();
        endWrongInputs();
        forwardEdgeOfShort();
        backwardEdgeOfShort();
        wideningSpreads();
        branchAndJumpTogether();
        layoutNumbers();
        CHECK.finish();
    }

    private static void setAlignment() {
        BlockLayout x = Programs.selfLoop();
        int previous = 1;
        for (int alignment : new int[] {2, 4, 8, 16, 32, 1}) {
            CHECK.due("setAlignment(" + alignment + ")", x.setAlignment(alignment), previous);
            CHECK.due("layout(7)", x.layout(7), alignment);
            previous = alignment;
        }
        for (int alignment : new int[] {0, -1, -2, 3, 5, 6, 12, 24, 31, 33, 64, Integer.MIN_VALUE, Integer.MAX_VALUE}) {
            CHECK.fails("setAlignment(" + alignment + ")", ARGUMENT, () -> x.setAlignment(alignment));
        }
    }

    private static void alignedLoopHeads() {
        BlockLayout x = Programs.selfLoop();
        x.setAlignment(16);
        CHECK.due("not aligned before it is counted", x.place(1, 1), 5);
        x.run(10);
        CHECK.due("aligned", x.place(1, 1), 16);
        CHECK.due("its padding", x.place(1, 2), 11);
        CHECK.due("the block behind it is not aligned", x.place(2, 1), 21);
        CHECK.due("no padding of block 2", x.place(2, 2), 0);
        x.setAlignment(1);
        CHECK.due("alignment 1", x.place(1, 1), 5);
        x.setAlignment(4);
        CHECK.due("alignment 4", x.place(1, 1), 8);
        x.setSize(0, 8);
        CHECK.due("an address that is a multiple by itself", x.place(1, 1), 8);
        CHECK.due("has no padding", x.place(1, 2), 0);
        x.setGo(0, 0);
        x.setLoopLimit(0);
        x.setAlignment(32);
        CHECK.due("block 0 stands at 0 always", x.place(0, 1), 0);
    }

    private static void setLoopLimit() {
        BlockLayout x = Programs.selfLoop();
        x.setAlignment(32);
        CHECK.due("setLoopLimit(0)", x.setLoopLimit(0), 1);
        CHECK.due("a count of 0 is enough for 0", x.place(1, 1), 32);
        CHECK.due("setLoopLimit(2)", x.setLoopLimit(2), 0);
        x.run(10);
        CHECK.due("a count of 2 is enough for 2", x.place(1, 1), 32);
        CHECK.due("setLoopLimit(3)", x.setLoopLimit(3), 2);
        CHECK.due("a count of 2 is not enough for 3", x.place(1, 1), 5);
        CHECK.due("setLoopLimit(9999)", x.setLoopLimit(9999), 3);
        CHECK.due("layout(8)", x.layout(8), 9999);
        for (int limit : new int[] {-1, 10000, Integer.MIN_VALUE, Integer.MAX_VALUE}) {
            CHECK.fails("setLoopLimit(" + limit + ")", ARGUMENT, () -> x.setLoopLimit(limit));
        }
    }

    private static void exchange() {
        BlockLayout x = new BlockLayout();
        x.clear(4);
        CHECK.due("exchange(1, 3)", x.exchange(1, 3), 3);
        CHECK.due("the order", Check.order(x), "0 3 2 1");
        CHECK.due("exchange(2, 1)", x.exchange(2, 1), 3);
        CHECK.due("the order then", Check.order(x), "0 2 3 1");
        CHECK.due("exchange(3, 3)", x.exchange(3, 3), 1);
        CHECK.due("the order still", Check.order(x), "0 2 3 1");
        CHECK.fails("exchange(0, 1)", ARGUMENT, () -> x.exchange(0, 1));
        CHECK.fails("exchange(1, 0)", ARGUMENT, () -> x.exchange(1, 0));
        CHECK.fails("exchange(0, 0)", ARGUMENT, () -> x.exchange(0, 0));
        for (int i : new int[] {-1, 4, 16, Integer.MIN_VALUE, Integer.MAX_VALUE}) {
            CHECK.fails("exchange(1, " + i + ")", INDEX, () -> x.exchange(1, i));
            CHECK.fails("exchange(" + i + ", 1)", INDEX, () -> x.exchange(i, 1));
            CHECK.fails("exchange(0, " + i + ")", INDEX, () -> x.exchange(0, i));
            CHECK.fails("exchange(" + i + ", 0)", INDEX, () -> x.exchange(i, 0));
        }
    }

    private static void setHot() {
        BlockLayout x = new BlockLayout();
        x.clear(3);
        CHECK.due("setHot(1)", x.setHot(1), 3);
        CHECK.due("setHot(3)", x.setHot(3), 1);
        CHECK.due("setHot(2)", x.setHot(2), 3);
        CHECK.due("layout(2)", x.layout(2), 2);
        for (int count : new int[] {0, -1, 4, 16, Integer.MIN_VALUE, Integer.MAX_VALUE}) {
            CHECK.fails("setHot(" + count + ")", ARGUMENT, () -> x.setHot(count));
        }
    }

    private static void order() {
        BlockLayout x = new BlockLayout();
        x.clear(3);
        x.exchange(1, 2);
        CHECK.due("order(0)", x.order(0), 0);
        CHECK.due("order(1)", x.order(1), 2);
        CHECK.due("order(2)", x.order(2), 1);
        for (int i : new int[] {-1, 3, 16, Integer.MIN_VALUE, Integer.MAX_VALUE}) {
            CHECK.fails("order(" + i + ")", INDEX, () -> x.order(i));
        }
    }

    /** Sizes 10, 20, 30; the order 0 2 1, of which 1 is cold. */
    private static void place() {
        BlockLayout x = new BlockLayout();
        x.clear(3);
        x.setSize(0, 10);
        x.setSize(1, 20);
        x.setSize(2, 30);
        x.setGo(0, 1);
        x.exchange(1, 2);
        x.setHot(2);
        int[][] due = {{0, 0, 0, 1}, {2, 64, 21, 0}, {1, 12, 0, 1}};
        for (int b = 0; b < 3; b++) {
            for (int what = 0; what <= 3; what++) {
                CHECK.due("place(" + b + ", " + what + ")", x.place(b, what), due[b][what]);
            }
        }
        for (int what : new int[] {-1, 4, Integer.MIN_VALUE, Integer.MAX_VALUE}) {
            CHECK.fails("place(0, " + what + ")", ARGUMENT, () -> x.place(0, what));
            CHECK.fails("place(3, " + what + ")", INDEX, () -> x.place(3, what));
        }
        for (int b : FAR_OUT) {
            CHECK.fails("place(" + b + ", 0)", INDEX, () -> x.place(b, 0));
        }
        CHECK.fails("place(3, 0)", INDEX, () -> x.place(3, 0));
    }

    private static void coldSection() {
        BlockLayout x = new BlockLayout();
        x.clear(3);
        x.setSize(0, 60);
        x.setHot(2);
        x.setSize(1, 2);
        CHECK.due("hot blocks that end at 64", x.layout(0), 64);
        CHECK.due("cold blocks at 64", x.place(2, 1), 64);
        CHECK.due("without padding", x.place(2, 2), 0);
        x.setSize(1, 3);
        CHECK.due("hot blocks that end at 65", x.layout(0), 65);
        CHECK.due("cold blocks at 128", x.place(2, 1), 128);
        CHECK.due("with 63 bytes of padding", x.place(2, 2), 63);
        x.setGo(1, 2);
        CHECK.due("no next block across the sections", x.end(1, 0), 1);
        x.setHot(1);
        CHECK.due("a next block among cold ones", x.end(1, 0), 0);
        CHECK.due("its address", x.place(2, 1), 67);
    }

    private static void endForms() {
        BlockLayout x = new BlockLayout();
        x.clear(4);
        CHECK.due("a return", x.end(0, 0), 5);
        x.setGo(0, 1);
        CHECK.due("nothing", x.end(0, 0), 0);
        x.setGo(0, 0);
        CHECK.due("a jump to itself", x.end(0, 0), 1);
        x.setIf(0, 2, 1, 0);
        CHECK.due("a branch", x.end(0, 0), 2);
        x.setIf(0, 1, 2, 0);
        CHECK.due("an inverted branch", x.end(0, 0), 3);
        x.setIf(0, 2, 3, 0);
        CHECK.due("a branch and a jump", x.end(0, 0), 4);
        x.setIf(3, 0, 1, 0);
        CHECK.due("a branch and a jump of the last block", x.end(3, 0), 4);
        x.setGo(3, 0);
        CHECK.due("a jump of the last block", x.end(3, 0), 1);
        x.exchange(1, 2);
        x.setIf(0, 1, 2, 0);
        CHECK.due("the order counts, not the number", x.end(0, 0), 2);
    }

    private static void endBytes() {
        BlockLayout x = new BlockLayout();
        x.clear(4);
        CHECK.due("a return", x.end(0, 1), 1);
        x.setGo(0, 1);
        CHECK.due("nothing", x.end(0, 1), 0);
        x.setGo(0, 2);
        CHECK.due("a short jump", x.end(0, 1), 2);
        x.setIf(0, 2, 1, 0);
        CHECK.due("a short branch", x.end(0, 1), 2);
        x.setIf(0, 1, 2, 0);
        CHECK.due("a short inverted branch", x.end(0, 1), 2);
        x.setIf(0, 2, 3, 0);
        CHECK.due("a short branch and a short jump", x.end(0, 1), 4);
        CHECK.due("no long branch", x.end(0, 2), 0);
        CHECK.due("no long jump", x.end(0, 3), 0);
    }

    private static void endWrongInputs() {
        BlockLayout x = Programs.selfLoop();
        for (int what : new int[] {-1, 4, Integer.MIN_VALUE, Integer.MAX_VALUE}) {
            CHECK.fails("end(0, " + what + ")", ARGUMENT, () -> x.end(0, what));
            CHECK.fails("end(3, " + what + ")", INDEX, () -> x.end(3, what));
        }
        for (int b : FAR_OUT) {
            CHECK.fails("end(" + b + ", 0)", INDEX, () -> x.end(b, 0));
        }
        CHECK.fails("end(3, 0)", INDEX, () -> x.end(3, 0));
    }

    /** Between block 0 and its target 4 lie 60, 60, the size of 3, and the byte of a return. */
    private static BlockLayout forward(int sizeOf3) {
        BlockLayout x = new BlockLayout();
        x.clear(5);
        x.setGo(1, 2);
        x.setGo(2, 3);
        x.setSize(1, 60);
        x.setSize(2, 60);
        x.setSize(3, sizeOf3);
        return x;
    }

    private static void forwardEdgeOfShort() {
        BlockLayout near = forward(6);
        near.setGo(0, 4);
        CHECK.due("a jump by 127", near.end(0, 3), 0);
        CHECK.due("its bytes", near.end(0, 1), 2);
        near.setIf(0, 4, 1, 0);
        CHECK.due("a branch by 127", near.end(0, 2), 0);
        near.setIf(0, 1, 4, 0);
        CHECK.due("an inverted branch by 127", near.end(0, 2), 0);
        BlockLayout far = forward(7);
        far.setGo(0, 4);
        CHECK.due("a jump by 128", far.end(0, 3), 1);
        CHECK.due("is no branch", far.end(0, 2), 0);
        CHECK.due("bytes of a long jump", far.end(0, 1), 5);
        CHECK.due("the target behind it", far.place(4, 1), 133);
        far.setIf(0, 4, 1, 0);
        CHECK.due("a branch by 128", far.end(0, 2), 1);
        CHECK.due("is no jump", far.end(0, 3), 0);
        CHECK.due("bytes of a long branch", far.end(0, 1), 6);
        far.setIf(0, 1, 4, 0);
        CHECK.due("an inverted branch by 128", far.end(0, 2), 1);
        CHECK.due("bytes of a long inverted branch", far.end(0, 1), 6);
    }

    /** Block 3 goes back to 1 over 60, 60, its own size and its own end of 2 bytes. */
    private static BlockLayout backward(int sizeOf3) {
        BlockLayout x = new BlockLayout();
        x.clear(5);
        x.setGo(0, 1);
        x.setGo(1, 2);
        x.setGo(2, 3);
        x.setSize(1, 60);
        x.setSize(2, 60);
        x.setSize(3, sizeOf3);
        return x;
    }

    private static void backwardEdgeOfShort() {
        BlockLayout near = backward(6);
        near.setGo(3, 1);
        CHECK.due("a jump by -128", near.end(3, 3), 0);
        near.setIf(3, 1, 4, 0);
        CHECK.due("a branch by -128", near.end(3, 2), 0);
        BlockLayout far = backward(7);
        far.setGo(3, 1);
        CHECK.due("a jump by -129", far.end(3, 3), 1);
        far.setIf(3, 1, 4, 0);
        CHECK.due("a branch by -129", far.end(3, 2), 1);
        far.setIf(3, 4, 1, 0);
        CHECK.due("an inverted branch by -129", far.end(3, 2), 1);
    }

    /** The jump of 0 spans 127 bytes, but only as long as the jump of 1, which it spans, is short. */
    private static void wideningSpreads() {
        BlockLayout x = new BlockLayout();
        x.clear(9);
        x.setGo(0, 4);
        x.setSize(1, 60);
        x.setSize(2, 60);
        x.setGo(2, 3);
        x.setSize(3, 4);
        x.setSize(4, 60);
        x.setGo(4, 5);
        x.setSize(5, 60);
        x.setGo(1, 4);
        CHECK.due("all short", x.layout(4), 0);
        x.setGo(1, 8);
        CHECK.due("the jump of 1", x.end(1, 3), 1);
        CHECK.due("and then that of 0", x.end(0, 3), 1);
        CHECK.due("two long ones", x.layout(4), 2);
        CHECK.due("the address of 4", x.place(4, 1), 135);
    }

    private static void branchAndJumpTogether() {
        BlockLayout x = backward(7);
        x.setIf(3, 1, 0, 0);
        CHECK.due("a branch and a jump", x.end(3, 0), 4);
        CHECK.due("a long branch", x.end(3, 2), 1);
        CHECK.due("a long jump", x.end(3, 3), 1);
        CHECK.due("bytes of both", x.end(3, 1), 11);
        CHECK.due("both are counted", x.layout(4), 2);
        BlockLayout y = backward(2);
        y.setIf(3, 4, 1, 0);
        y.exchange(4, 3);
        y.setGo(2, 4);
        CHECK.due("an order in which 3 is the last", Check.order(y), "0 1 2 4 3");
        y.setIf(3, 4, 1, 0);
        CHECK.due("a short branch", y.end(3, 2), 0);
        CHECK.due("a jump by -127", y.end(3, 3), 0);
        y.setSize(3, 4);
        CHECK.due("a short branch once more", y.end(3, 2), 0);
        CHECK.due("a jump by -129", y.end(3, 3), 1);
        CHECK.due("bytes of a short branch and a long jump", y.end(3, 1), 7);
    }

    private static void layoutNumbers() {
        BlockLayout x = Programs.fiveBlocks();
        x.setSize(1, 60);
        x.setSize(2, 60);
        x.setSize(3, 60);
        x.setHot(3);
        x.setAlignment(2);
        x.setLoopLimit(5);
        // 0 at 0: a branch to 4 (second is next); 1 at 2 or 6: a return; 2 and 3: jumps; 4: a branch and a jump.
        CHECK.due("the branch of 0 to 4 is long", x.end(0, 2), 1);
        CHECK.due("the jump of 2 to 0 is long", x.end(2, 3), 1);
        CHECK.due("the jump of 3 to 0 is long", x.end(3, 3), 1);
        CHECK.due("the branch of 4 to 3 is short", x.end(4, 2), 0);
        CHECK.due("the jump of 4 to 2 is long", x.end(4, 3), 1);
        CHECK.due("layout(0)", x.layout(0), 6 + 61 + 65);
        CHECK.due("layout(1)", x.layout(1), 192 + 65 + 7);
        CHECK.due("layout(2)", x.layout(2), 3);
        CHECK.due("layout(3)", x.layout(3), 192 - 132);
        CHECK.due("layout(4)", x.layout(4), 4);
        CHECK.due("layout(5)", x.layout(5), 3 * 5 + 1 + 6 + 4 + 3 * 2 + 3 * 3);
        CHECK.due("layout(6)", x.layout(6), 0);
        CHECK.due("layout(7)", x.layout(7), 2);
        CHECK.due("layout(8)", x.layout(8), 5);
        x.invert(0);
        CHECK.due("layout(6) with an inverted branch", x.layout(6), 1);
        x.setHot(5);
        CHECK.due("layout(0) without cold blocks", x.layout(0), x.layout(1));
        for (int what : new int[] {-1, 9, Integer.MIN_VALUE, Integer.MAX_VALUE}) {
            CHECK.fails("layout(" + what + ")", ARGUMENT, () -> x.layout(what));
        }
    }
}
