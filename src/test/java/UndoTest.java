import java.util.NoSuchElementException;

/** Promise 28: undoing. */
public final class UndoTest {
    private static final Check CHECK = new Check("UndoTest");

    public static void main(String[] args) {
        eachOfTheFour();
        nothingElseIsUndone();
        tenCalls();
        undoAndGoOn();
        clearForgets();
        CHECK.finish();
    }

    private static void eachOfTheFour() {
        BlockLayout x = Programs.fiveBlocks();
        CHECK.fails("undo() of a new object", NoSuchElementException.class, x::undo);
        x.setAlignment(8);
        x.exchange(1, 3);
        x.setHot(2);
        x.arrange(0, 2);
        CHECK.due("the order by arrange", Check.order(x), "0 4 2 1 3");
        CHECK.due("undo() of arrange", x.undo(), 3);
        CHECK.due("the order before", Check.order(x), "0 3 2 1 4");
        CHECK.due("the hot blocks before", x.layout(2), 2);
        CHECK.due("undo() of setHot", x.undo(), 2);
        CHECK.due("all hot", x.layout(2), 5);
        CHECK.due("the order stays", Check.order(x), "0 3 2 1 4");
        CHECK.due("undo() of exchange", x.undo(), 1);
        CHECK.due("the order ascends", Check.order(x), "0 1 2 3 4");
        CHECK.due("the alignment stays", x.layout(7), 8);
        CHECK.due("undo() of setAlignment", x.undo(), 0);
        CHECK.due("the alignment before", x.layout(7), 1);
        CHECK.fails("undo() of nothing", NoSuchElementException.class, x::undo);
    }

    private static void nothingElseIsUndone() {
        BlockLayout x = Programs.selfLoop();
        x.exchange(1, 2);
        x.setLoopLimit(9);
        x.setSize(0, 1);
        x.invert(1);
        x.run(4);
        CHECK.due("setAlignment(3)", Check.outcome(() -> x.setAlignment(3)), "IllegalArgumentException");
        CHECK.due("setHot(9)", Check.outcome(() -> x.setHot(9)), "IllegalArgumentException");
        CHECK.due("exchange(0, 1)", Check.outcome(() -> x.exchange(0, 1)), "IllegalArgumentException");
        CHECK.due("arrange(3, 0)", Check.outcome(() -> x.arrange(3, 0)), "IllegalArgumentException");
        CHECK.due("undo() of exchange alone", x.undo(), 0);
        CHECK.due("the order", Check.order(x), "0 1 2");
        CHECK.due("the loop limit stays", x.layout(8), 9);
        CHECK.due("the size stays", x.block(0, 0), 1);
        CHECK.due("the end stays inverted", x.block(1, 2), 2);
        CHECK.due("the profile stays", x.block(1, 4), 2);
        x.exchange(1, 1);
        x.setHot(3);
        x.setAlignment(1);
        CHECK.due("undo() of calls that change nothing", x.undo(), 2);
    }

    private static void tenCalls() {
        BlockLayout x = new BlockLayout();
        x.clear(16);
        for (int count = 1; count <= 12; count++) x.setHot(count);
        for (int left = 9; left >= 0; left--) {
            CHECK.due("undo()", x.undo(), left);
            CHECK.due("layout(2)", x.layout(2), left + 2);
        }
        CHECK.fails("undo(), the 11th", NoSuchElementException.class, x::undo);
        CHECK.due("layout(2) then", x.layout(2), 2);
    }

    private static void undoAndGoOn() {
        BlockLayout x = new BlockLayout();
        x.clear(16);
        for (int count = 1; count <= 8; count++) x.setHot(count);
        CHECK.due("undo()", x.undo(), 7);
        CHECK.due("undo()", x.undo(), 6);
        CHECK.due("hot blocks", x.layout(2), 6);
        for (int count = 11; count <= 16; count++) x.setHot(count);
        int[] before = {15, 14, 13, 12, 11, 6, 5, 4, 3, 2};
        for (int i = 0; i < 10; i++) {
            CHECK.due("undo() again", x.undo(), 9 - i);
            CHECK.due("hot blocks again", x.layout(2), before[i]);
        }
        CHECK.fails("undo() of the 11th", NoSuchElementException.class, x::undo);
    }

    private static void clearForgets() {
        BlockLayout x = new BlockLayout();
        x.clear(4);
        x.setAlignment(4);
        x.setHot(2);
        CHECK.due("clear(0)", Check.outcome(() -> x.clear(0)), "IllegalArgumentException");
        CHECK.due("undo() after a clear that failed", x.undo(), 1);
        x.clear(3);
        CHECK.fails("undo() after clear", NoSuchElementException.class, x::undo);
        CHECK.due("the alignment stays", x.layout(7), 4);
        x.setHot(2);
        CHECK.due("undo() of a call after clear", x.undo(), 0);
        CHECK.due("all hot", x.layout(2), 3);
    }
}
