import com.sun.management.ThreadMXBean;
import java.lang.management.ManagementFactory;

/**
 * An object answers as is due up to its 512th call, however they are chosen; and, for all calls of a run share one
 * room, a call that is answered makes no object.
 */
public final class LifeTest {
    private static final Edges EDGES = new Edges("LifeTest");
    private static final int CALLS = 512;
    private static final ThreadMXBean MEMORY = (ThreadMXBean) ManagementFactory.getThreadMXBean();
    /** Less than the least object in each of the nine rounds of allCalls. */
    private static final long FEW_BYTES = 100;

    /** An object that counts its calls: each goes through on(). */
    private static final class Life {
        private final BlockLayout x = new BlockLayout();
        private int calls;

        Object on(Edges.Call call) {
            calls++;
            return Check.outcome(() -> call.on(x));
        }

        void feed(String text) {
            for (int i = 0; i < text.length(); i++) {
                char character = text.charAt(i);
                on(x -> x.feed(character));
            }
        }

        /** The last call of the object. */
        void ends(String what, Edges.Call call, Object want) {
            EDGES.due(what, on(call), want);
            EDGES.due("the number of calls", calls, CALLS);
        }
    }

    public static void main(String[] args) {
        EDGES.holds(0, "An object is used for at most 512 calls after it has been made; what later calls answer is free.");
        executions();
        longestLoop();
        callsToUndo();
        texts();
        refusedCalls();
        arrangements();
        questions();
        room();
        EDGES.finish();
    }

    /** The sixteen blocks of Programs.lasting(500), in 16 calls. */
    private static Life sixteenBlocks() {
        Life life = new Life();
        life.on(x -> x.clear(16));
        life.on(x -> x.setIf(0, 0, 1, 0x55555555));
        for (int b = 1; b < 13; b++) {
            int from = b;
            life.on(x -> x.setGo(from, from + 1));
        }
        life.on(x -> x.setIf(13, 0, 14, 0x7fffffff));
        life.on(x -> x.setIf(14, 14, 15, Programs.bits(18)));
        return life;
    }

    private static void executions() {
        Life life = sixteenBlocks();
        for (int i = 0; i < 490; i++) EDGES.due("run " + i, life.on(x -> x.run(500)), 500);
        EDGES.due("the count of 0", life.on(x -> x.block(0, 4)), 490 * 64);
        EDGES.due("cycles()", life.on(BlockLayout::cycles), 490 * 277);
        EDGES.due("meanCycles()", life.on(BlockLayout::meanCycles), 277.0 / 500.0);
        EDGES.due("bestAlignment()", life.on(BlockLayout::bestAlignment), 1);
        // 14 and 15 are cold; the cost is that of 0, which goes 32 times to itself and on, and of 13, which has no next block.
        EDGES.due("arrange(0, 9999)", life.on(x -> x.arrange(0, 9999)), 490 * (32 * (3 + 1) + 31 * 3 + 3));
        life.ends("clearProfile()", BlockLayout::clearProfile, 490 * 500);
    }

    /** A block that nearly all of the executions are of, so that its count and weight become as great as can be. */
    private static void longestLoop() {
        Life life = new Life();
        life.on(x -> x.clear(16));
        // 0 goes 31 times to itself and then to 1, which sends it back 14 times and then goes to 2.
        life.on(x -> x.setIf(0, 0, 1, 0x7fffffff));
        life.on(x -> x.setIf(1, 0, 2, Programs.bits(14)));
        for (int i = 0; i < 507; i++) EDGES.due("run " + i, life.on(x -> x.run(500)), 15 * 33 + 1);
        EDGES.due("the weight of 0>0", life.on(x -> x.block(0, 5)), 507 * 15 * 31);
        life.ends("the costs of all", x -> x.layout(5), 507 * (15 * 31 * 3 + 15 + 14 * 3 + 1));
    }

    private static void callsToUndo() {
        Life life = new Life();
        life.on(x -> x.clear(16));
        for (int i = 0; i < 498; i++) {
            int count = 1 + i % 16;
            EDGES.due("setHot " + i, life.on(x -> x.setHot(count)), i == 0 ? 16 : 1 + (i - 1) % 16);
        }
        EDGES.due("exchange(1, 15)", life.on(x -> x.exchange(1, 15)), 15);
        for (int left = 9; left >= 0; left--) EDGES.due("undo()", life.on(BlockLayout::undo), left);
        EDGES.due("the hot blocks of 9 calls before", life.on(x -> x.layout(2)), 1 + (497 - 9) % 16);
        life.ends("undo() of no more", BlockLayout::undo, "NoSuchElementException");
    }

    private static void texts() {
        Life life = new Life();
        for (int round = 0; round < 8; round++) {
            for (int i = 1; i <= 60; i++) EDGES.due("feed", life.on(x -> x.feed('7')), i);
            EDGES.due("feed of one more", life.on(x -> x.feed('7')), "IllegalStateException");
            EDGES.due("read(0)", life.on(x -> x.read(0)), -102);
        }
        life.feed("5 go 0");
        EDGES.due("read(0) of a go", life.on(x -> x.read(0)), 0);
        life.feed("59 stop");
        EDGES.due("read(0) of a stop", life.on(x -> x.read(0)), 2);
        life.ends("the size", x -> x.block(0, 0), 59);
    }

    private static void refusedCalls() {
        Life life = sixteenBlocks();
        EDGES.due("setHot(9)", life.on(x -> x.setHot(9)), 16);
        for (int i = 0; i < 49; i++) {
            EDGES.due("clear(0)", life.on(x -> x.clear(0)), "IllegalArgumentException");
            EDGES.due("setGo(0, 16)", life.on(x -> x.setGo(0, 16)), "IndexOutOfBoundsException");
            EDGES.due("invert(15)", life.on(x -> x.invert(15)), "UnsupportedOperationException");
            EDGES.due("run(499)", life.on(x -> x.run(499)), "ArithmeticException");
            EDGES.due("runLayout(499)", life.on(x -> x.runLayout(499)), "ArithmeticException");
            EDGES.due("meanCycles()", life.on(BlockLayout::meanCycles), "ArithmeticException");
            EDGES.due("arrange(2, -1)", life.on(x -> x.arrange(2, -1)), "UnsupportedOperationException");
            EDGES.due("exchange(0, 1)", life.on(x -> x.exchange(0, 1)), "IllegalArgumentException");
            EDGES.due("read(16)", life.on(x -> x.read(16)), "IndexOutOfBoundsException");
            EDGES.due("pathBlock(0)", life.on(x -> x.pathBlock(0)), "IndexOutOfBoundsException");
        }
        EDGES.due("order(15)", life.on(x -> x.order(15)), 15);
        EDGES.due("pathLength()", life.on(BlockLayout::pathLength), 0);
        EDGES.due("clearProfile()", life.on(BlockLayout::clearProfile), 0);
        EDGES.due("undo()", life.on(BlockLayout::undo), 0);
        life.ends("run(500)", x -> x.run(500), 500);
    }

    /** The search over the orders of 7 blocks, again and again. */
    private static void arrangements() {
        Life life = new Life();
        life.on(x -> x.clear(7));
        life.on(x -> x.setGo(0, 6));
        for (int b = 6; b > 1; b--) {
            int from = b;
            life.on(x -> x.setGo(from, from - 1));
        }
        life.on(x -> x.run(7));
        for (int i = 0; i < 502; i++) {
            int method = i % 3;
            int coldLimit = i % 2 - 1;
            EDGES.due("arrange " + i, life.on(x -> x.arrange(method, coldLimit)), 0);
        }
        EDGES.due("order(1)", life.on(x -> x.order(1)), 6);
        life.ends("order(6)", x -> x.order(6), 1);
    }

    private static void questions() {
        Life life = sixteenBlocks();
        life.on(x -> x.run(500));
        for (int i = 0; i < 98; i++) {
            EDGES.due("place(15, 1)", life.on(x -> x.place(15, 1)), 2 + 2 + 2);
            EDGES.due("end(13, 0)", life.on(x -> x.end(13, 0)), 2);
            EDGES.due("layout(1)", life.on(x -> x.layout(1)), 7);
            EDGES.due("cycles()", life.on(BlockLayout::cycles), 277);
            EDGES.due("block(14, 7)", life.on(x -> x.block(14, 7)), 1);
        }
        EDGES.due("pathLength()", life.on(BlockLayout::pathLength), 500);
        EDGES.due("pathBlock(499)", life.on(x -> x.pathBlock(499)), 15);
        EDGES.due("runLayout(500)", life.on(x -> x.runLayout(500)), 277);
        EDGES.due("undo()", life.on(BlockLayout::undo), "NoSuchElementException");
        life.ends("bestAlignment()", BlockLayout::bestAlignment, 1);
    }

    // ---- the room

    private static void room() {
        allCalls(new BlockLayout());
        long before = MEMORY.getCurrentThreadAllocatedBytes();
        BlockLayout x = new BlockLayout();
        long made = MEMORY.getCurrentThreadAllocatedBytes();
        allCalls(x);
        long used = MEMORY.getCurrentThreadAllocatedBytes() - made;
        EDGES.due("a new object needs " + (made - before) + " bytes, below 16,000", made - before < 16000, true);
        EDGES.due("its calls need " + used + " bytes, nearly none", used < FEW_BYTES, true);
    }

    /** Every method of the face, several times, and none is refused. */
    private static void allCalls(BlockLayout x) {
        for (int i = 0; i < 9; i++) {
            x.clear(6);
            x.setIf(0, 5, 1, 0x3fffffff);
            x.setIf(5, 0, 4, -1);
            x.setSize(1, 60);
            x.invert(5);
            x.setStop(1);
            x.run(500);
            x.runLayout(500);
            x.pathBlock(x.pathLength() - 1);
            x.setAlignment(32);
            x.setLoopLimit(3);
            for (int method = 0; method <= 2; method++) x.arrange(method, method - 1);
            x.exchange(1, 2);
            x.setHot(3);
            for (int what = 0; what <= 3; what++) x.order(x.block(5, what) + x.place(1, what) + x.end(1, what) >= 0 ? what : 0);
            for (int what = 0; what <= 8; what++) x.layout(what);
            x.cycles();
            x.meanCycles();
            x.bestAlignment();
            x.feed('9');
            x.read(0);
            x.undo();
            x.setGo(2, 2);
            x.clearProfile();
        }
    }
}
