/** The boundaries of promise 28. */
public final class EdgesOfUndoTest {
    private static final Edges EDGES = new Edges("EdgesOfUndoTest");
    private static final String UNDOES = "Undoes the last call of arrange, exchange, setHot or setAlignment that did not throw an "
        + "exception and was not undone: order, number of hot blocks and alignment are as before it.";
    private static final String TEN = "The last 10 such calls since the last clear can be undone.";

    public static void main(String[] args) {
        eachOfTheFour();
        arrangeByEachMethod();
        callsThatChangeNothing();
        callsThatThrew();
        otherCalls();
        undoneCalls();
        lastTen();
        tenAgainAndAgain();
        sinceTheLastClear();
        numbersLeft();
        refuses();
        EDGES.finish();
    }

    /** The call can be undone, and then all is as if it had not been made. */
    private static void undone(String what, Edges.Call call) {
        undone(what, Programs::busy, 5, call);
        undone(what + " at first", Programs::fiveBlocks, 0, call);
    }

    private static void undone(String what, Edges.Maker maker, int leftThen, Edges.Call call) {
        Edges.Maker called = () -> {
            BlockLayout x = maker.make();
            call.on(x);
            return x;
        };
        EDGES.leaves(called, "undo() of " + what, BlockLayout::undo, leftThen, maker);
    }

    private static void eachOfTheFour() {
        EDGES.holds(28, UNDOES);
        undone("setAlignment(32)", x -> x.setAlignment(32));
        undone("setAlignment(1)", x -> x.setAlignment(1));
        undone("exchange(1, 4)", x -> x.exchange(1, 4));
        undone("setHot(1)", x -> x.setHot(1));
        undone("setHot(5)", x -> x.setHot(5));
        undone("arrange(0, 2)", x -> x.arrange(0, 2));
    }

    private static void arrangeByEachMethod() {
        EDGES.holds(28, UNDOES);
        for (int method = 0; method <= 2; method++) {
            for (int coldLimit : new int[] {-1, 0, 1, 2, 3, 5, 9999}) {
                int by = method;
                undone("arrange(" + by + ", " + coldLimit + ")", x -> x.arrange(by, coldLimit));
            }
        }
    }

    private static void callsThatChangeNothing() {
        EDGES.holds(28, UNDOES);
        undone("exchange(2, 2)", x -> x.exchange(2, 2));
        undone("setHot as it is", x -> x.setHot(x.layout(2)));
        undone("setAlignment as it is", x -> x.setAlignment(x.layout(7)));
    }

    private static void callsThatThrew() {
        EDGES.holds(28, UNDOES);
        BlockLayout x = Programs.ofBlocks(8);
        x.setHot(3);
        EDGES.due("setAlignment(3)", Check.outcome(() -> x.setAlignment(3)), "IllegalArgumentException");
        EDGES.due("exchange(1, 8)", Check.outcome(() -> x.exchange(1, 8)), "IndexOutOfBoundsException");
        EDGES.due("exchange(0, 1)", Check.outcome(() -> x.exchange(0, 1)), "IllegalArgumentException");
        EDGES.due("setHot(9)", Check.outcome(() -> x.setHot(9)), "IllegalArgumentException");
        EDGES.due("arrange(3, 0)", Check.outcome(() -> x.arrange(3, 0)), "IllegalArgumentException");
        EDGES.due("arrange(2, -1)", Check.outcome(() -> x.arrange(2, -1)), "UnsupportedOperationException");
        EDGES.due("undo() of setHot", x.undo(), 0);
        EDGES.due("hot ones", x.layout(2), 8);
        EDGES.due("undo() of no more", Check.outcome(x::undo), "NoSuchElementException");
    }

    private static void otherCalls() {
        EDGES.holds(28, UNDOES);
        BlockLayout x = Programs.fiveBlocks();
        x.setHot(3);
        x.setLoopLimit(9);
        x.setSize(1, 60);
        x.setGo(1, 0);
        x.setStop(1);
        x.setIf(1, 0, 2, 5);
        x.setStop(1);
        x.invert(0);
        x.run(17);
        x.runLayout(17);
        x.bestAlignment();
        Check.feed(x, "60 stop");
        x.read(1);
        x.clearProfile();
        EDGES.due("undo() of setHot alone", x.undo(), 0);
        EDGES.due("hot ones", x.layout(2), 5);
        EDGES.due("the loop limit stays", x.layout(8), 9);
        EDGES.due("the size stays", x.block(1, 0), 60);
        EDGES.due("the end stays", x.block(0, 2), 1);
        EDGES.due("the profile stays", x.block(0, 4), 0);
        EDGES.due("the path stays", x.pathLength(), 17);
        EDGES.due("undo() of no more", Check.outcome(x::undo), "NoSuchElementException");
    }

    private static void undoneCalls() {
        EDGES.holds(28, UNDOES);
        BlockLayout x = Programs.ofBlocks(16);
        x.setHot(1);
        x.setHot(2);
        EDGES.due("undo() of setHot(2)", x.undo(), 1);
        EDGES.due("hot ones", x.layout(2), 1);
        x.setHot(3);
        EDGES.due("undo() of setHot(3)", x.undo(), 1);
        EDGES.due("hot ones", x.layout(2), 1);
        EDGES.due("undo() of setHot(1), for setHot(2) was undone", x.undo(), 0);
        EDGES.due("hot ones at last", x.layout(2), 16);
        x.setHot(4);
        EDGES.due("undo() after all was undone", x.undo(), 0);
        EDGES.due("hot ones once more", x.layout(2), 16);
    }

    private static void lastTen() {
        EDGES.holds(28, TEN);
        for (int calls = 8; calls <= 13; calls++) {
            BlockLayout x = Programs.ofBlocks(16);
            for (int count = 1; count <= calls; count++) x.setHot(count);
            int undone = Math.min(calls, 10);
            for (int i = 1; i <= undone; i++) {
                EDGES.due("undo() " + i + " of " + calls, x.undo(), undone - i);
                EDGES.due("hot ones", x.layout(2), i == calls ? 16 : calls - i);
            }
            EDGES.due("undo() behind the last one of " + calls, Check.outcome(x::undo), "NoSuchElementException");
            EDGES.due("hot ones then", x.layout(2), undone == calls ? 16 : calls - undone);
        }
    }

    /** All four kinds of calls, in several rounds with undoing between them. */
    private static void tenAgainAndAgain() {
        EDGES.holds(28, TEN);
        BlockLayout x = Programs.fiveBlocks();
        for (int round = 0; round < 3; round++) {
            x.setAlignment(16);
            x.exchange(1, 4);
            x.setHot(2);
            x.arrange(0, 1);
            x.setAlignment(2);
            x.exchange(2, 3);
            x.setHot(1);
            x.arrange(1, -1);
            x.setAlignment(32);
            x.exchange(1, 2);
            x.setHot(4);
            EDGES.due("undo() of setHot", x.undo(), 9);
            EDGES.due("hot ones", x.layout(2), 5);
            x.setHot(3);
            x.setAlignment(4);
            int[] alignments = {32, 32, 32, 2, 2, 2, 2, 16, 16, 16};
            int[] hot = {3, 5, 5, 5, 1, 4, 4, 4, 2, 5};
            for (int i = 0; i < 10; i++) {
                EDGES.due("undo() " + i + " in round " + round, x.undo(), 9 - i);
                EDGES.due("the alignment", x.layout(7), alignments[i]);
                EDGES.due("hot ones", x.layout(2), hot[i]);
            }
            EDGES.due("undo() of the 11th", Check.outcome(x::undo), "NoSuchElementException");
            x.exchange(1, 4);
            EDGES.due("the order", Check.order(x), "0 1 2 3 4");
        }
    }

    private static void sinceTheLastClear() {
        EDGES.holds(28, TEN);
        for (int calls : new int[] {1, 9, 10, 11}) {
            BlockLayout x = Programs.ofBlocks(5);
            for (int i = 0; i < calls; i++) x.setAlignment(1 << i % 6);
            int alignment = x.layout(7);
            EDGES.due("clear(0)", Check.outcome(() -> x.clear(0)), "IllegalArgumentException");
            EDGES.due("undo() after a clear that threw", x.undo(), Math.min(calls, 10) - 1);
            x.setAlignment(alignment);
            x.clear(5);
            EDGES.due("undo() after clear", Check.outcome(x::undo), "NoSuchElementException");
            EDGES.due("the alignment stays", x.layout(7), alignment);
            x.setHot(2);
            EDGES.due("undo() of one call since", x.undo(), 0);
            EDGES.due("undo() of no more", Check.outcome(x::undo), "NoSuchElementException");
        }
        BlockLayout y = Programs.ofBlocks(16);
        y.exchange(1, 15);
        y.clear(2);
        y.exchange(1, 1);
        y.clear(16);
        y.setHot(16);
        EDGES.due("undo()", y.undo(), 0);
        EDGES.due("the order", Check.order(y), "0 1 2 3 4 5 6 7 8 9 10 11 12 13 14 15");
    }

    private static void numbersLeft() {
        EDGES.holds(28, "Returns the number of calls that can still be undone.");
        BlockLayout x = Programs.ofBlocks(2);
        x.setHot(1);
        EDGES.due("after one call", x.undo(), 0);
        for (int i = 0; i < 10; i++) x.setHot(1 + i % 2);
        EDGES.due("after ten calls", x.undo(), 9);
        x.setHot(1);
        EDGES.due("after ten calls once more", x.undo(), 9);
        x.setHot(1);
        x.setHot(2);
        EDGES.due("after eleven calls", x.undo(), 9);
    }

    private static BlockLayout allUndone() {
        BlockLayout x = Programs.busy();
        for (int i = 0; i < 5; i++) x.undo();
        return x;
    }

    private static BlockLayout cleared() {
        BlockLayout x = Programs.busy();
        x.clear(5);
        return x;
    }

    private static BlockLayout tenUndone() {
        BlockLayout x = Programs.full();
        for (int i = 0; i < 10; i++) x.undo();
        return x;
    }

    private static void refuses() {
        EDGES.holds(28, "Throws NoSuchElementException if there is none");
        EDGES.refused(BlockLayout::new, Edges.NO_ELEMENT, "undo() of a new object", BlockLayout::undo);
        EDGES.refused(Programs::selfLoop, Edges.NO_ELEMENT, "undo() without such a call", BlockLayout::undo);
        EDGES.refused(EdgesOfUndoTest::allUndone, Edges.NO_ELEMENT, "undo() when all is undone", BlockLayout::undo);
        EDGES.refused(EdgesOfUndoTest::cleared, Edges.NO_ELEMENT, "undo() after clear", BlockLayout::undo);
        EDGES.refused(EdgesOfUndoTest::tenUndone, Edges.NO_ELEMENT, "undo() behind ten of more", BlockLayout::undo);
        EDGES.answers(Programs::busy, "undo() of five", BlockLayout::undo, 4);
    }
}
