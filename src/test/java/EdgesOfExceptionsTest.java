/** What the description says of exceptions, for every call that can be refused, in states of several kinds. */
public final class EdgesOfExceptionsTest {
    private static final Edges EDGES = new Edges("EdgesOfExceptionsTest");
    private static final String UNCHANGED = "A method that throws an exception leaves the state unchanged.";
    private static final String FIRST = "If several exceptions apply, the one that is documented first is thrown.";

    /** A state, and what is known of it. */
    private record State(String name, Edges.Maker maker, int blocks, int pathLength, int executed) {
    }

    private static final State[] STATES = {
        new State("a new object", BlockLayout::new, 1, 0, 1),
        new State("a busy object", Programs::busy, 5, 17, 17),
        new State("a full object", Programs::full, 16, 500, 500),
        new State("a cleared object", EdgesOfExceptionsTest::cleared, 3, 17, 1),
        new State("an object with undone calls", EdgesOfExceptionsTest::undone, 16, 500, 500),
        new State("an endless program", EdgesOfExceptionsTest::endless, 5, 17, 501),
    };

    private static State state;

    public static void main(String[] args) {
        for (State each : STATES) {
            state = each;
            EDGES.holds(0, UNCHANGED);
            programCalls();
            executionCalls();
            layoutCalls();
            placeCalls();
            EDGES.holds(0, FIRST);
            twoOfTheProgram();
            twoOfTheLayout();
        }
        EDGES.holds(0, UNCHANGED);
        callsThatNeedAState();
        EDGES.holds(0, FIRST);
        twoThatNeedAState();
        EDGES.finish();
    }

    private static BlockLayout cleared() {
        BlockLayout x = Programs.busy();
        x.clear(3);
        return x;
    }

    private static BlockLayout undone() {
        BlockLayout x = Programs.full();
        for (int i = 0; i < 4; i++) x.undo();
        return x;
    }

    private static BlockLayout endless() {
        BlockLayout x = Programs.busy();
        x.setGo(0, 2);
        x.setGo(2, 3);
        return x;
    }

    private static void refused(Class<?> exception, String what, Edges.Call call) {
        EDGES.refused(state.maker(), exception, what + " of " + state.name(), call);
    }

    private static void noBlock(String what, Edges.NumberCall call) {
        int n = state.blocks();
        for (int block : new int[] {-1, n, n + 1, Edges.LEAST, Edges.MOST}) {
            refused(Edges.INDEX, what + " with " + block, x -> call.on(x, block));
        }
    }

    private static void wrong(String what, Edges.NumberCall call, int... numbers) {
        for (int number : numbers) refused(Edges.ARGUMENT, what + " with " + number, x -> call.on(x, number));
    }

    private static void programCalls() {
        int last = state.blocks() - 1;
        wrong("clear", (x, n) -> x.clear(n), 0, 17, -1, Edges.LEAST, Edges.MOST);
        noBlock("setSize(.., 1)", (x, b) -> x.setSize(b, 1));
        wrong("setSize(0, ..)", (x, size) -> x.setSize(0, size), -1, 61, Edges.LEAST, Edges.MOST);
        noBlock("setGo(.., 0)", (x, b) -> x.setGo(b, 0));
        noBlock("setGo(0, ..)", (x, b) -> x.setGo(0, b));
        noBlock("setIf(.., 0, last, 1)", (x, b) -> x.setIf(b, 0, last, 1));
        noBlock("setIf(0, .., 0, 1)", (x, b) -> x.setIf(0, b, 0, 1));
        noBlock("setIf(0, 0, .., 1)", (x, b) -> x.setIf(0, 0, b, 1));
        refused(Edges.ARGUMENT, "setIf(0, 0, 0, 1)", x -> x.setIf(0, 0, 0, 1));
        refused(Edges.ARGUMENT, "setIf(0, last, last, 1)", x -> x.setIf(0, last, last, 1));
        noBlock("setStop", (x, b) -> x.setStop(b));
        noBlock("invert", (x, b) -> x.invert(b));
        noBlock("block(.., 0)", (x, b) -> x.block(b, 0));
        wrong("block(0, ..)", (x, what) -> x.block(0, what), -1, 8, Edges.LEAST, Edges.MOST);
        noBlock("read", (x, b) -> x.read(b));
    }

    private static void executionCalls() {
        wrong("run", (x, limit) -> x.run(limit), 0, 501, -1, Edges.LEAST, Edges.MOST);
        wrong("runLayout", (x, limit) -> x.runLayout(limit), 0, 501, -1, Edges.LEAST, Edges.MOST);
        int tooFew = state.executed() - 1;
        if (tooFew > 0) {
            refused(Edges.ARITHMETIC, "run(" + tooFew + ")", x -> x.run(tooFew));
            refused(Edges.ARITHMETIC, "runLayout(" + tooFew + ")", x -> x.runLayout(tooFew));
            refused(Edges.ARITHMETIC, "run(1)", x -> x.run(1));
            refused(Edges.ARITHMETIC, "runLayout(1)", x -> x.runLayout(1));
        }
        for (int i : new int[] {-1, state.pathLength(), state.pathLength() + 1, Edges.LEAST, Edges.MOST}) {
            refused(Edges.INDEX, "pathBlock(" + i + ")", x -> x.pathBlock(i));
        }
    }

    private static void layoutCalls() {
        int n = state.blocks();
        wrong("setAlignment", (x, a) -> x.setAlignment(a), 0, 3, 31, 33, 64, -1, Edges.LEAST, Edges.MOST);
        wrong("setLoopLimit", (x, limit) -> x.setLoopLimit(limit), -1, 10000, Edges.LEAST, Edges.MOST);
        wrong("arrange(.., 0)", (x, method) -> x.arrange(method, 0), -1, 3, Edges.LEAST, Edges.MOST);
        for (int method = 0; method <= 2; method++) {
            int by = method;
            wrong("arrange(" + by + ", ..)", (x, limit) -> x.arrange(by, limit), -2, 10000, Edges.LEAST, Edges.MOST);
        }
        noBlock("exchange(.., last)", (x, i) -> x.exchange(i, n - 1));
        noBlock("exchange(last, ..)", (x, i) -> x.exchange(n - 1, i));
        for (int i = 0; i < Math.min(n, 3); i++) {
            int other = i;
            refused(Edges.ARGUMENT, "exchange(0, " + other + ")", x -> x.exchange(0, other));
            refused(Edges.ARGUMENT, "exchange(" + other + ", 0)", x -> x.exchange(other, 0));
        }
        wrong("setHot", (x, count) -> x.setHot(count), 0, n + 1, -1, Edges.LEAST, Edges.MOST);
    }

    private static void placeCalls() {
        noBlock("order", (x, i) -> x.order(i));
        noBlock("place(.., 0)", (x, b) -> x.place(b, 0));
        wrong("place(0, ..)", (x, what) -> x.place(0, what), -1, 4, Edges.LEAST, Edges.MOST);
        noBlock("end(.., 0)", (x, b) -> x.end(b, 0));
        wrong("end(0, ..)", (x, what) -> x.end(0, what), -1, 4, Edges.LEAST, Edges.MOST);
        wrong("layout", (x, what) -> x.layout(what), -1, 9, Edges.LEAST, Edges.MOST);
    }

    private static void callsThatNeedAState() {
        EDGES.refused(Programs::busy, Edges.UNSUPPORTED, "invert(1) of a stop", x -> x.invert(1));
        EDGES.refused(Programs::busy, Edges.UNSUPPORTED, "invert(3) of a go", x -> x.invert(3));
        EDGES.refused(Programs::full, Edges.UNSUPPORTED, "arrange(2, -1) of 16", x -> x.arrange(2, -1));
        EDGES.refused(EdgesOfExceptionsTest::undone, Edges.UNSUPPORTED, "arrange(2, 0) of 16", x -> x.arrange(2, 0));
        EDGES.refused(EdgesOfExceptionsTest::cleared, Edges.ARITHMETIC, "meanCycles()", BlockLayout::meanCycles);
        EDGES.refused(Programs::full, Edges.FULL, "feed('1')", x -> x.feed('1'));
        EDGES.refused(EdgesOfExceptionsTest::cleared, Edges.NO_ELEMENT, "undo()", BlockLayout::undo);
    }

    // ---- where two exceptions apply

    private static void twoOfTheProgram() {
        noBlock("setSize(.., -1)", (x, b) -> x.setSize(b, -1));
        noBlock("setSize(.., 61)", (x, b) -> x.setSize(b, 61));
        noBlock("setIf(.., 0, 0, 1)", (x, b) -> x.setIf(b, 0, 0, 1));
        noBlock("setIf(0, .., .., 1)", (x, b) -> x.setIf(0, b, b, 1));
        noBlock("setIf(.., .., .., 1)", (x, b) -> x.setIf(b, b, b, 1));
        noBlock("block(.., -1)", (x, b) -> x.block(b, -1));
        noBlock("block(.., 8)", (x, b) -> x.block(b, 8));
    }

    private static void twoOfTheLayout() {
        noBlock("exchange(0, ..)", (x, i) -> x.exchange(0, i));
        noBlock("exchange(.., 0)", (x, i) -> x.exchange(i, 0));
        noBlock("place(.., -1)", (x, b) -> x.place(b, -1));
        noBlock("place(.., 4)", (x, b) -> x.place(b, 4));
        noBlock("end(.., -1)", (x, b) -> x.end(b, -1));
        noBlock("end(.., 4)", (x, b) -> x.end(b, 4));
    }

    private static void twoThatNeedAState() {
        for (int limit : new int[] {0, 501}) {
            EDGES.refused(EdgesOfExceptionsTest::endless, Edges.ARGUMENT, "run(" + limit + ")", x -> x.run(limit));
            EDGES.refused(EdgesOfExceptionsTest::endless, Edges.ARGUMENT, "runLayout(" + limit + ")", x -> x.runLayout(limit));
        }
        for (int coldLimit : new int[] {-2, 10000}) {
            EDGES.refused(Programs::full, Edges.ARGUMENT, "arrange(2, " + coldLimit + ")", x -> x.arrange(2, coldLimit));
        }
        EDGES.refused(Programs::full, Edges.ARGUMENT, "arrange(3, -1)", x -> x.arrange(3, -1));
        for (String text : new String[] {"61 stop", "5 go 99", "5 if 1 1 1"}) {
            Edges.Maker maker = () -> {
                BlockLayout x = Programs.busyWithoutInput();
                Check.feed(x, text);
                return x;
            };
            EDGES.refused(maker, Edges.INDEX, "read(5) of '" + text + "'", x -> x.read(5));
            EDGES.refused(maker, Edges.INDEX, "read(-1) of '" + text + "'", x -> x.read(-1));
        }
    }
}
