/**
 * The sentences of the document that name no boundary, with ordinary inputs: that a call does what its first line
 * says, and that each argument is what its line says. The tests of the Edges hold the other sentences.
 */
public final class PlainSentencesTest {
    private static final Edges EDGES = new Edges("PlainSentencesTest");
    private static final int SIZE = 0;
    private static final int KIND = 1;
    private static final int FIRST = 2;
    private static final int SECOND = 3;

    public static void main(String[] args) {
        clear();
        setSize();
        setGo();
        setIf();
        setStop();
        invert();
        block();
        pathBlock();
        setAlignment();
        setLoopLimit();
        arrange();
        exchange();
        setHot();
        order();
        place();
        end();
        layout();
        cyclesAndMean();
        bestAlignment();
        feed();
        read();
        EDGES.finish();
    }

    /** A property of all blocks, one behind the other. */
    private static String all(BlockLayout x, int what) {
        StringBuilder row = new StringBuilder();
        for (int b = 0; b < 16 && Check.hasBlock(x, b); b++) row.append(b == 0 ? "" : " ").append(x.block(b, what));
        return row.toString();
    }

    /** What is asked of all five blocks, a text for each number that can be asked for. */
    private static void allFive(String call, String[] due, Question question) {
        BlockLayout x = Programs.busy();
        for (int what = 0; what < due.length; what++) {
            StringBuilder row = new StringBuilder();
            for (int b = 0; b < 5; b++) row.append(b == 0 ? "" : " ").append(question.ask(x, b, what));
            EDGES.due(call + "(.., " + what + ")", row.toString(), due[what]);
        }
    }

    interface Question {
        int ask(BlockLayout x, int block, int what);
    }

    // ---- program

    private static void clear() {
        EDGES.holds(2, "blocks: the number of blocks");
        for (int n = 1; n <= 16; n++) {
            BlockLayout x = Programs.ofBlocks(n);
            for (int b = 0; b < 17; b++) EDGES.due("block " + b + " of " + n, Check.hasBlock(x, b), b < n);
        }
    }

    private static void setSize() {
        EDGES.holds(3, "Sets the size of a block.");
        BlockLayout x = Programs.ofBlocks(5);
        for (int b = 0; b < 5; b++) x.setSize(b, 10 + b);
        EDGES.due("the sizes", all(x, SIZE), "10 11 12 13 14");
        EDGES.holds(3, "block: the block");
        x.setSize(3, 7);
        EDGES.due("the sizes when that of 3 is set", all(x, SIZE), "10 11 12 7 14");
        x.setSize(0, 8);
        EDGES.due("the sizes when that of 0 is set", all(x, SIZE), "8 11 12 7 14");
        EDGES.holds(3, "size: the size");
        for (int size = 0; size <= 60; size++) {
            x.setSize(4, size);
            EDGES.due("the size " + size, x.block(4, SIZE), size);
        }
        EDGES.due("the kinds stay", all(x, KIND), "2 2 2 2 2");
    }

    private static void setGo() {
        EDGES.holds(4, "Lets a block go to one block.");
        BlockLayout x = Programs.ofBlocks(5);
        x.setGo(0, 3);
        x.run(9);
        EDGES.due("0 goes to 3", Check.path(x), "0 3");
        EDGES.holds(4, "block: the block");
        x.setGo(3, 1);
        EDGES.due("the kinds when 3 goes too", all(x, KIND), "0 2 2 0 2");
        EDGES.due("the blocks to which they go", all(x, FIRST), "3 -1 -1 1 -1");
        EDGES.due("no second ones", all(x, SECOND), "-1 -1 -1 -1 -1");
        x.run(9);
        EDGES.due("3 goes to 1", Check.path(x), "0 3 1");
        EDGES.holds(4, "to: the block to which it goes");
        for (int to = 0; to < 5; to++) {
            x.setGo(2, to);
            EDGES.due("2 goes to " + to, x.block(2, FIRST), to);
        }
    }

    private static void setIf() {
        EDGES.holds(5, "Lets a block go to one of two blocks.");
        BlockLayout x = Programs.ofBlocks(5);
        x.setIf(0, 4, 2, 1);
        x.run(9);
        EDGES.due("0 goes to 4", Check.path(x), "0 4");
        x.setIf(0, 4, 2, 0);
        x.run(9);
        EDGES.due("0 goes to 2", Check.path(x), "0 2");
        EDGES.holds(5, "block: the block");
        x.setIf(2, 3, 1, 0);
        EDGES.due("the kinds when 2 has an if too", all(x, KIND), "1 2 1 2 2");
        x.run(9);
        EDGES.due("the path then", Check.path(x), "0 2 1");
        EDGES.holds(5, "first: the first block");
        EDGES.due("the first ones", all(x, FIRST), "4 -1 3 -1 -1");
        EDGES.holds(5, "second: the second block");
        EDGES.due("the second ones", all(x, SECOND), "2 -1 1 -1 -1");
        EDGES.holds(5, "pattern: the pattern");
        x.clear(3);
        x.setIf(0, 1, 2, 0b0101101);
        x.setGo(1, 0);
        x.run(9);
        EDGES.due("true once, then false", Check.path(x), "0 1 0 2");
        x.setIf(0, 2, 1, 0b0101000);
        x.run(9);
        EDGES.due("false three times, then true", Check.path(x), "0 1 0 1 0 1 0 2");
    }

    private static void setStop() {
        EDGES.holds(6, "Lets a block stop.");
        BlockLayout x = Programs.ofBlocks(4);
        for (int b = 0; b < 3; b++) x.setGo(b, b + 1);
        x.run(9);
        EDGES.due("the path before", Check.path(x), "0 1 2 3");
        x.setStop(2);
        x.run(9);
        EDGES.due("the path then", Check.path(x), "0 1 2");
        EDGES.holds(6, "block: the block");
        EDGES.due("the kinds when 2 stops", all(x, KIND), "0 0 2 2");
        x.setStop(0);
        EDGES.due("the kinds when 0 stops too", all(x, KIND), "2 0 2 2");
        EDGES.due("the blocks to which they go", all(x, FIRST), "-1 2 -1 -1");
    }

    private static void invert() {
        EDGES.holds(7, "block: the block");
        BlockLayout x = Programs.fiveBlocks();
        x.invert(4);
        EDGES.due("the first ones when 4 is inverted", all(x, FIRST), "4 -1 0 0 2");
        EDGES.due("the second ones", all(x, SECOND), "1 -1 -1 -1 3");
        x.invert(0);
        EDGES.due("the first ones when 0 is inverted too", all(x, FIRST), "1 -1 0 0 2");
        EDGES.due("the second ones then", all(x, SECOND), "4 -1 -1 -1 3");
    }

    private static void block() {
        String[] due = {"11 60 33 60 7", "1 2 0 0 1", "4 -1 0 0 3", "1 -1 -1 -1 2", "6 1 3 2 5", "5 0 3 2 2", "1 0 0 0 3", "1 0 0 0 0"};
        EDGES.holds(8, "Returns a property of a block.");
        allFive("block", due, BlockLayout::block);
        EDGES.holds(8, "block: the block");
        allFive("block", due, BlockLayout::block);
        EDGES.holds(8, "Returns the property.");
        allFive("block", due, BlockLayout::block);
        EDGES.leaves(Programs::busy, "block(4, 6)", x -> x.block(4, 6), 3, Programs::busy);
    }

    // ---- executions

    private static void pathBlock() {
        EDGES.holds(12, "Returns the block.");
        EDGES.answers(Programs::busy, "the path", Check::path, "0 4 3 0 4 3 0 4 2 0 4 2 0 4 2 0 1");
        EDGES.leaves(Programs::busy, "pathBlock(8)", x -> x.pathBlock(8), 2, Programs::busy);
    }

    // ---- layout

    private static void setAlignment() {
        EDGES.holds(14, "Sets the alignment.");
        BlockLayout x = Programs.selfLoop();
        x.run(4);
        EDGES.due("the loop head at first", x.place(1, 1), 5);
        x.setAlignment(16);
        EDGES.due("the loop head aligned", x.place(1, 1), 16);
        EDGES.holds(14, "alignment: the alignment");
        int[][] due = {{2, 6}, {4, 8}, {8, 8}, {16, 16}, {32, 32}, {1, 5}};
        for (int[] pair : due) {
            x.setAlignment(pair[0]);
            EDGES.due("the alignment", x.layout(7), pair[0]);
            EDGES.due("the loop head aligned by " + pair[0], x.place(1, 1), pair[1]);
        }
    }

    private static void setLoopLimit() {
        BlockLayout x = Programs.selfLoop();
        x.run(4);
        x.setAlignment(16);
        EDGES.holds(15, "Sets the loop limit.");
        x.setLoopLimit(3);
        EDGES.due("a count of 2 with the limit 3", x.place(1, 1), 5);
        x.setLoopLimit(2);
        EDGES.due("a count of 2 with the limit 2", x.place(1, 1), 16);
        EDGES.holds(15, "limit: the loop limit");
        for (int limit = 0; limit < 9999; limit += 77) {
            x.setLoopLimit(limit);
            EDGES.due("the loop limit", x.layout(8), limit);
        }
    }

    private static void arrange() {
        EDGES.holds(16, "Makes a layout by arranging.");
        String[] orders = {"0 4 2 3 1", "0 4 2 3 1", "0 4 2 1 3"};
        for (int method = 0; method <= 2; method++) {
            BlockLayout x = Programs.fiveBlocks();
            x.exchange(1, 3);
            x.setHot(2);
            x.arrange(method, -1);
            EDGES.due("the order by " + method, Check.order(x), orders[method]);
            EDGES.due("the hot blocks by " + method, x.layout(2), 5);
        }
        EDGES.holds(16, "coldLimit: the cold limit");
        // The counts are 6 1 3 2 5.
        String[] byLimit = {"0 4 2 3 1", "0 4 2 3 1", "0 4 2 1 3", "0 4 1 2 3", "0 4 1 2 3", "0 1 2 3 4"};
        int[] hot = {5, 4, 3, 2, 2, 1};
        for (int coldLimit = 0; coldLimit <= 5; coldLimit++) {
            BlockLayout x = Programs.fiveBlocks();
            x.arrange(0, coldLimit);
            EDGES.due("the order with the limit " + coldLimit, Check.order(x), byLimit[coldLimit]);
            EDGES.due("the hot blocks with the limit " + coldLimit, x.layout(2), hot[coldLimit]);
        }
    }

    private static void exchange() {
        EDGES.holds(17, "Exchanges two blocks in the order.");
        BlockLayout x = Programs.ofBlocks(5);
        x.exchange(1, 3);
        EDGES.due("the order", Check.order(x), "0 3 2 1 4");
        EDGES.due("the hot blocks stay", x.layout(2), 5);
        EDGES.holds(17, "j: a position");
        x.exchange(1, 4);
        EDGES.due("positions, not blocks", Check.order(x), "0 4 2 1 3");
        x.exchange(4, 2);
        EDGES.due("i behind j", Check.order(x), "0 4 3 1 2");
    }

    private static void setHot() {
        EDGES.holds(18, "Sets the number of hot blocks.");
        BlockLayout x = Programs.ofBlocks(5);
        x.exchange(1, 3);
        x.setHot(2);
        EDGES.due("0 is hot", x.place(0, 3), 1);
        EDGES.due("3 is hot", x.place(3, 3), 1);
        EDGES.due("2 is cold", x.place(2, 3), 0);
        EDGES.due("1 is cold", x.place(1, 3), 0);
        EDGES.due("the order stays", Check.order(x), "0 3 2 1 4");
        EDGES.holds(18, "count: the number of hot blocks");
        for (int count = 1; count <= 5; count++) {
            x.setHot(count);
            EDGES.due("the number of hot blocks", x.layout(2), count);
        }
    }

    private static void order() {
        EDGES.holds(19, "Returns the block.");
        EDGES.answers(Programs::busy, "the order", Check::order, "0 4 3 2 1");
        EDGES.leaves(Programs::busy, "order(2)", x -> x.order(2), 3, Programs::busy);
    }

    private static void place() {
        // As in EdgesOfLayoutTest, layoutNumbers; the padding before the first cold block is 128 - 88.
        String[] due = {"0 4 3 2 1", "0 166 128 26 17", "0 0 40 0 0", "1 0 0 1 1"};
        EDGES.holds(20, "Returns where a block stands.");
        allFive("place", due, BlockLayout::place);
        EDGES.holds(20, "block: the block");
        allFive("place", due, BlockLayout::place);
        EDGES.holds(20, "Returns the number.");
        allFive("place", due, BlockLayout::place);
        EDGES.leaves(Programs::busy, "place(2, 2)", x -> x.place(2, 2), 40, Programs::busy);
    }

    private static void end() {
        String[] due = {"3 5 1 1 3", "6 1 5 2 2", "1 0 0 0 0", "0 0 1 0 0"};
        EDGES.holds(21, "Returns what the end of a block needs.");
        allFive("end", due, BlockLayout::end);
        EDGES.holds(21, "block: the block");
        allFive("end", due, BlockLayout::end);
        EDGES.holds(21, "Returns the number.");
        allFive("end", due, BlockLayout::end);
        EDGES.leaves(Programs::busy, "end(0, 1)", x -> x.end(0, 1), 6, Programs::busy);
    }

    private static void layout() {
        EDGES.holds(22, "Returns a number about the layout.");
        int[] due = {88, 227, 3, 40, 2, 29, 2, 8, 2};
        for (int what = 0; what <= 8; what++) {
            int number = what;
            EDGES.answers(Programs::busy, "layout(" + number + ")", x -> x.layout(number), due[number]);
        }
        EDGES.holds(22, "Returns the number.");
        EDGES.leaves(Programs::busy, "layout(1)", x -> x.layout(1), 227, Programs::busy);
    }

    private static void cyclesAndMean() {
        EDGES.holds(23, "Returns the number of cycles.");
        EDGES.leaves(Programs::busy, "cycles()", BlockLayout::cycles, 29, Programs::busy);
        EDGES.holds(24, "Returns the quotient.");
        EDGES.leaves(Programs::busy, "meanCycles()", BlockLayout::meanCycles, 29.0 / 17.0, Programs::busy);
    }

    private static void bestAlignment() {
        EDGES.holds(25, "Returns the alignment.");
        EDGES.answers(Programs::selfLoop, "with nothing that is aligned", BlockLayout::bestAlignment, 1);
        // Block 1 stands at 5 or, aligned, nearer to the cold block 2, whose way back to it is 1 too long from 5.
        BlockLayout x = Programs.ofBlocks(3);
        x.setSize(0, 5);
        x.setSize(1, 60);
        x.setSize(2, 4);
        x.setGo(0, 1);
        x.setGo(1, 2);
        x.setGo(2, 1);
        x.setHot(2);
        x.setLoopLimit(0);
        EDGES.due("with a way back that 2 makes short", x.bestAlignment(), 2);
        EDGES.due("the alignment as it is", x.layout(7), 1);
    }

    // ---- texts

    private static void feed() {
        EDGES.holds(26, "character: the character");
        // The first character that is no digit is the fault; a digit leads to the space that lacks.
        for (char character = 0; character < 400; character++) {
            BlockLayout x = new BlockLayout();
            x.feed(character);
            boolean digit = character >= '0' && character <= '9';
            EDGES.due("read(0) of the character " + (int) character, x.read(0), digit ? -101 : -100);
        }
    }

    private static void read() {
        EDGES.holds(27, "block: the block");
        for (int b = 0; b < 5; b++) {
            BlockLayout x = Programs.ofBlocks(5);
            Check.feed(x, "12 if 3 4 1");
            x.read(b);
            for (int other = 0; other < 5; other++) {
                EDGES.due("the size of " + other, x.block(other, SIZE), other == b ? 12 : 0);
                EDGES.due("the kind of " + other, x.block(other, KIND), other == b ? 1 : 2);
                EDGES.due("the first block of " + other, x.block(other, FIRST), other == b ? 3 : -1);
                EDGES.due("the second block of " + other, x.block(other, SECOND), other == b ? 4 : -1);
            }
        }
    }
}
