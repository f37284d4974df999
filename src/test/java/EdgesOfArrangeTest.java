/** The boundaries of promise 16, and those of arranging. */
public final class EdgesOfArrangeTest {
    private static final Edges EDGES = new Edges("EdgesOfArrangeTest");

    public static void main(String[] args) {
        coldLimits();
        coldLimitOf9999();
        chainsAtFirst();
        costs();
        weightsAboveNothing();
        orderOfWeights();
        edgesOfHotBlocks();
        whatCanBeJoined();
        greatestGain();
        equalGains();
        greatestSumOfWeights();
        oneChainAfterTheOther();
        coldBlocksAscend();
        leastSum();
        answers();
        methods();
        refusesMethodsAndLimits();
        refusesManyBlocks();
        EDGES.finish();
    }

    private static void arranged(String what, BlockLayout x, int method, int coldLimit, String order) {
        x.arrange(method, coldLimit);
        EDGES.due(what + " by method " + method, Check.order(x), order);
    }

    // ---- the description

    private static void coldLimits() {
        EDGES.holds(0, "Blocks other than block 0 whose count is at most a cold limit are cold, and all others are hot.");
        // The counts are 6 1 3 2 5.
        int[][] hotBlocks = {{-1, 5}, {0, 5}, {1, 4}, {2, 3}, {3, 2}, {4, 2}, {5, 1}, {6, 1}, {7, 1}, {9999, 1}};
        for (int[] pair : hotBlocks) {
            for (int method = 0; method <= 2; method++) {
                BlockLayout x = Programs.fiveBlocks();
                x.arrange(method, pair[0]);
                EDGES.due("hot ones with the limit " + pair[0] + " by " + method, x.layout(2), pair[1]);
                EDGES.due("block 0 is hot", x.place(0, 3), 1);
                EDGES.due("a count of 1", x.place(1, 3), 1 > pair[0] ? 1 : 0);
                EDGES.due("a count of 3", x.place(2, 3), 3 > pair[0] ? 1 : 0);
                EDGES.due("a count of 5", x.place(4, 3), 5 > pair[0] ? 1 : 0);
            }
        }
        for (int method = 0; method <= 2; method++) {
            BlockLayout x = Programs.ofBlocks(7);
            x.arrange(method, -1);
            EDGES.due("counts of 0 with the limit -1", x.layout(2), 7);
            x.arrange(method, 0);
            EDGES.due("counts of 0 with the limit 0", x.layout(2), 1);
        }
    }

    private static void coldLimitOf9999() {
        EDGES.holds(0, "Blocks other than block 0 whose count is at most a cold limit are cold, and all others are hot.");
        BlockLayout x = Programs.ofBlocks(3);
        x.setGo(0, 1);
        x.setIf(1, 1, 2, Programs.bits(31));
        for (int i = 0; i < 312; i++) x.run(500);
        x.setIf(1, 1, 2, Programs.bits(14));
        x.run(500);
        EDGES.due("the count", x.block(1, 4), 9999);
        hotOnes(x, 9999, 1);
        hotOnes(x, 9998, 2);
        x.setIf(1, 1, 2, 0);
        x.run(500);
        EDGES.due("the count", x.block(1, 4), 10000);
        hotOnes(x, 9999, 2);
    }

    private static void hotOnes(BlockLayout x, int coldLimit, int due) {
        for (int method = 0; method <= 2; method++) {
            x.arrange(method, coldLimit);
            EDGES.due("hot ones with the limit " + coldLimit, x.layout(2), due);
        }
    }

    private static void chainsAtFirst() {
        EDGES.holds(0, "There are chains, rows of hot blocks; at first each hot block is a chain of its own.");
        BlockLayout x = Programs.ofBlocks(16);
        for (int b = 0; b < 15; b++) x.setGo(b, 15 - b);
        for (int method = 0; method <= 1; method++) {
            x.exchange(1, 15);
            arranged("chains of one block, of which none is joined", x, method, -1, "0 1 2 3 4 5 6 7 8 9 10 11 12 13 14 15");
        }
        EDGES.holds(0, "Chains are joined by a method.");
        BlockLayout y = new BlockLayout();
        for (int method = 0; method <= 2; method++) arranged("a single block", y, method, -1, "0");
    }

    private static void costs() {
        EDGES.holds(0, "The cost of a block with a given next block, or without one, is the number of cycles, padding apart, that "
            + "its end takes for all of the weights of its edges.");
        BlockLayout x = Programs.lasting(6);
        x.setSize(0, 5);
        x.run(6);
        EDGES.due("4 taken and 1 not, the second block next", x.layout(5), 3 * 4 + 1);
        x.invert(0);
        EDGES.due("inverted, the first block next", x.layout(5), 3 * 4 + 1);
        x.setHot(1);
        EDGES.due("without a next block", x.layout(5), 3 * 4 + 3);
        BlockLayout y = Programs.ofBlocks(3);
        y.setGo(0, 1);
        EDGES.due("no weight", y.layout(5), 0);
        y.run(2);
        EDGES.due("a go to the next block", y.layout(5), 0);
        y.exchange(1, 2);
        EDGES.due("a go to another one", y.layout(5), 2);
        y.run(2);
        EDGES.due("twice", y.layout(5), 4);
        BlockLayout z = Programs.selfLoop();
        z.run(4);
        z.setAlignment(32);
        EDGES.due("padding of 1", z.place(1, 2), 27);
        EDGES.due("padding apart", z.layout(5), 3 + 1);
        EDGES.due("which cycles counts", z.cycles(), 3 + 1 + 1);
        EDGES.due("and arrange does not", z.arrange(2, -1), 3 + 1);
    }

    private static final String BY_WEIGHTS = "Method 0: the edges between hot blocks with a weight above 0 are taken in "
        + "descending order of their weights, for the same weight in ascending order of their blocks, and for the same block the "
        + "edge to its first block before the one to its second.";

    private static void weightsAboveNothing() {
        for (int method = 0; method <= 1; method++) {
            EDGES.holds(0, method == 0 ? BY_WEIGHTS : BY_GAINS);
            BlockLayout x = Programs.ofBlocks(4);
            x.setGo(0, 2);
            x.setGo(2, 1);
            arranged("edges with a weight of 0", x, method, -1, "0 1 2 3");
            x.run(3);
            arranged("edges with a weight of 1", x, method, -1, "0 2 1 3");
            x.setGo(2, 1);
            arranged("one whose weight became 0", x, method, -1, "0 2 1 3");
            x.setGo(0, 2);
            arranged("both of whose weights became 0", x, method, -1, "0 1 2 3");
            arranged("two edges with a weight of 1", twoLightEdges(), method, -1, "0 2 4 3 1");
        }
    }

    /** 2>4 and 3>1, each followed once; 0 goes nowhere any more. */
    private static BlockLayout twoLightEdges() {
        BlockLayout x = Programs.ofBlocks(5);
        x.setGo(2, 4);
        x.setGo(3, 1);
        x.setGo(0, 2);
        x.run(3);
        x.setGo(0, 3);
        x.run(3);
        x.setStop(0);
        return x;
    }

    /** 1 and 2 both go to 3, so many times each; 3 goes to 4 once. */
    private static BlockLayout rivals(int by1, int by2, boolean oneIsAnIf, boolean twoIsAnIf) {
        BlockLayout x = Programs.ofBlocks(5);
        x.setIf(0, 1, 2, Programs.bits(by1));
        if (oneIsAnIf) x.setIf(1, 3, 4, -1); else x.setGo(1, 3);
        if (twoIsAnIf) x.setIf(2, 4, 3, 0); else x.setGo(2, 3);
        x.setIf(3, 0, 4, Programs.bits(by1 + by2 - 1));
        x.run(500);
        x.setStop(0);
        return x;
    }

    private static void orderOfWeights() {
        EDGES.holds(0, BY_WEIGHTS);
        rivalsBy(0);
        // Block 0 goes so many times to 2, its first block, and once to 1.
        for (int more = 1; more <= 3; more++) {
            BlockLayout x = Programs.ofBlocks(3);
            x.setIf(0, 2, 1, Programs.bits(more));
            x.setGo(2, 0);
            x.run(500);
            arranged(more + " to the first block and 1 to the second one", x, 0, -1, "0 2 1");
            x.invert(0);
            arranged("exchanged", x, 0, -1, more == 1 ? "0 1 2" : "0 2 1");
        }
    }

    private static void rivalsBy(int method) {
        for (int ends = 0; ends < 4; ends++) {
            boolean oneIsAnIf = ends % 2 == 1;
            boolean twoIsAnIf = ends / 2 == 1;
            arranged("equal weights, the lower block", rivals(2, 2, oneIsAnIf, twoIsAnIf), method, -1, "0 1 3 4 2");
            arranged("the lower block by one", rivals(3, 2, oneIsAnIf, twoIsAnIf), method, -1, "0 1 3 4 2");
            arranged("the higher block by one", rivals(2, 3, oneIsAnIf, twoIsAnIf), method, -1, "0 1 2 3 4");
        }
    }

    /** 0>2>1>3, once each, and a second time 0>1>3, so that the counts are 2 2 1 2. */
    private static void edgesOfHotBlocks() {
        EDGES.holds(0, BY_WEIGHTS);
        for (int method = 0; method <= 1; method++) {
            BlockLayout x = Programs.ofBlocks(4);
            x.setGo(2, 1);
            x.setGo(1, 3);
            x.setGo(0, 2);
            x.run(4);
            arranged("all are hot", x, method, 0, "0 2 1 3");
            x.setIf(0, 1, 2, 1);
            x.run(3);
            arranged("all are hot still", x, method, 0, "0 1 3 2");
            EDGES.due("hot ones", x.layout(2), 4);
            x.setGo(0, 2);
            x.run(4);
            x.run(4);
            // Counts 4 4 3 4; weights 0>2 2, 2>1 3, 1>3 4.
            arranged("2 is hot at 2", x, method, 2, "0 2 1 3");
            arranged("2 is cold at 3, and joins nothing", x, method, 3, "0 1 3 2");
            EDGES.due("hot ones then", x.layout(2), 3);
        }
    }

    private static void whatCanBeJoined() {
        EDGES.holds(0, "If the block of the edge is the last one of a chain and its target is the first one of another chain and is "
            + "not block 0, the second chain is appended to the first one.");
        for (int method = 0; method <= 1; method++) {
            BlockLayout twice = Programs.ofBlocks(4);
            twice.setIf(0, 3, 2, 0b11);
            twice.setGo(3, 0);
            twice.run(500);
            arranged("0 is not the last one any more when 0>2 is taken", twice, method, -1, "0 3 2 1");
            arranged("3 is not the first one any more", rivals(3, 2, false, false), method, -1, "0 1 3 4 2");
            BlockLayout ring = Programs.ofBlocks(4);
            ring.setGo(0, 2);
            ring.setGo(1, 2);
            ring.setIf(2, 1, 3, 0b11);
            ring.run(500);
            // 0>2 1, 2>1 2, 1>2 2, 2>3 1: the edge of 1 comes first, and that of 2 would close a ring.
            arranged("1 and 2 stand in the same chain", ring, method, -1, "0 1 2 3");
            BlockLayout back = Programs.ofBlocks(3);
            back.setIf(0, 1, 2, 0b1111);
            back.setGo(1, 0);
            back.run(500);
            arranged("the edge to block 0, although it is heavy", back, method, -1, "0 1 2");
            BlockLayout whole = Programs.ofBlocks(16);
            whole.setGo(0, 15);
            for (int b = 15; b > 1; b--) whole.setGo(b, b - 1);
            whole.run(16);
            arranged("one chain of all", whole, method, -1, "0 15 14 13 12 11 10 9 8 7 6 5 4 3 2 1");
        }
    }

    private static final String BY_GAINS = "Method 1: of all pairs of two different chains, the second of which does not begin with "
        + "block 0, the one with the greatest gain is joined, if it is above 0, of several the one with the lowest last block of the "
        + "first chain, and then with the lowest first block of the second chain; and so on.";

    private static void greatestGain() {
        EDGES.holds(0, "The gain is the cost of the last block of the first chain without a next block, minus its cost with the "
            + "first block of the second chain as next block.");
        // An edge of weight w gains 2 * w, by a jump that is left out or by a branch that is not taken.
        rivalsBy(1);
        arranged("the heaviest edge misleads", Programs.misleading(), 1, -1, "0 1 4 2 3");
    }

    private static void equalGains() {
        EDGES.holds(0, BY_GAINS);
        for (int more = 1; more <= 3; more++) {
            BlockLayout x = Programs.ofBlocks(3);
            x.setIf(0, 2, 1, Programs.bits(more));
            x.setGo(2, 0);
            x.run(500);
            String due = more == 1 ? "0 1 2" : "0 2 1";
            arranged(more + " to 2 and 1 to 1, the lowest first block", x, 1, -1, due);
            x.invert(0);
            arranged("whichever of both is the first block", x, 1, -1, due);
        }
        BlockLayout ring = Programs.ofBlocks(4);
        ring.setGo(0, 2);
        ring.setGo(1, 2);
        ring.setIf(2, 1, 3, 0b11);
        ring.run(500);
        arranged("1>2 and 2>1 gain the same: the lowest last block", ring, 1, -1, "0 1 2 3");
    }

    private static final String PLACED = "Then the chain with block 0 is placed first, and, one after the other, the chain with the "
        + "greatest sum of weights of edges from placed blocks to its blocks is placed behind, of several the one with the lowest "
        + "first block.";

    /** Chains 0 5 6, 1 4 and 2 3. From the first one weights of 2 lead to 2 and of 2 to 3; so many lead to 1. */
    private static BlockLayout threeChains(int to1) {
        BlockLayout x = Programs.ofBlocks(7);
        x.setIf(0, 5, 1, Programs.bits(10));
        x.setIf(5, 6, 2, Programs.bits(8));
        x.setIf(6, 0, 3, Programs.bits(6));
        x.setGo(2, 3);
        x.setGo(3, 0);
        x.setIf(1, 0, 4, Programs.bits(to1 - 1));
        x.run(500);
        return x;
    }

    /** The same, with first and second blocks exchanged in the chain of 0. */
    private static BlockLayout lightFirst(int to1) {
        BlockLayout x = threeChains(to1);
        for (int b : new int[] {0, 5, 6}) x.invert(b);
        return x;
    }

    private static void greatestSumOfWeights() {
        EDGES.holds(0, PLACED);
        for (int method = 0; method <= 1; method++) {
            arranged("3 to 1 4, and 2 and 2 to 2 3", threeChains(3), method, -1, "0 5 6 2 3 1 4");
            arranged("4 to 1 4, as many as to 2 3", threeChains(4), method, -1, "0 5 6 1 4 2 3");
            arranged("5 to 1 4", threeChains(5), method, -1, "0 5 6 1 4 2 3");
            BlockLayout x = lightFirst(3);
            arranged("light edges that lead to first blocks, 3 to 1 4", x, method, -1, "0 5 6 2 3 1 4");
            arranged("light edges that lead to first blocks, 4 to 1 4", lightFirst(4), method, -1, "0 5 6 1 4 2 3");
            arranged("light edges that lead to first blocks, 5 to 1 4", lightFirst(5), method, -1, "0 5 6 1 4 2 3");
            x.clearProfile();
            arranged("nothing of what led there before", x, method, -1, "0 1 2 3 4 5 6");
        }
    }

    /** 0>5 6, 5>6 5, 5>2 1, 0>3 5, 3>4 3, 3>1 2: only when 3 is placed, more leads to 1 than to 2. */
    private static void oneChainAfterTheOther() {
        EDGES.holds(0, PLACED);
        for (int method = 0; method <= 1; method++) {
            BlockLayout x = Programs.ofBlocks(8);
            x.setIf(0, 5, 3, Programs.bits(6));
            x.setIf(5, 6, 2, Programs.bits(5));
            x.setGo(6, 0);
            x.setGo(2, 0);
            x.setIf(3, 4, 1, 0b111);
            x.setGo(4, 0);
            x.setIf(1, 0, 7, 1);
            x.run(500);
            EDGES.due("the weight of 3>1", x.block(3, 6), 2);
            arranged("what placed chains lead to", x, method, 1, "0 5 6 3 4 1 2 7");
            EDGES.due("2 and 7 are cold", x.layout(2), 6);
            arranged("with 2 and 7 hot", x, method, 0, "0 5 6 3 4 1 7 2");
        }
    }

    private static void coldBlocksAscend() {
        EDGES.holds(0, "The cold blocks follow in ascending order.");
        for (int method = 0; method <= 2; method++) {
            BlockLayout x = Programs.ofBlocks(16);
            for (int b = 1; b < 15; b++) x.setGo(b, b + 1);
            x.setGo(0, 15);
            x.run(2);
            x.exchange(1, 14);
            x.exchange(3, 9);
            arranged("all but 0 and 15", x, method, 0, "0 15 1 2 3 4 5 6 7 8 9 10 11 12 13 14");
            arranged("all but 0", x, method, 1, "0 1 2 3 4 5 6 7 8 9 10 11 12 13 14 15");
            EDGES.due("one hot", x.layout(2), 1);
        }
    }

    private static void leastSum() {
        EDGES.holds(0, "Method 2: the hot blocks are placed, block 0 first, in the order with the least sum of the costs of all hot "
            + "blocks, of several orders the lexicographically first one.");
        arranged("the least, which weights and gains miss", Programs.misleading(), 2, -1, "0 2 3 1 4");
        BlockLayout x = Programs.ofBlocks(7);
        arranged("7 without weights, all orders cost the same", x, 2, -1, "0 1 2 3 4 5 6");
        x.setGo(0, 6);
        for (int b = 6; b > 1; b--) x.setGo(b, b - 1);
        x.run(7);
        arranged("7, the last of all orders", x, 2, -1, "0 6 5 4 3 2 1");
        EDGES.due("its cost", x.layout(5), 0);
        x.setStop(3);
        arranged("a cut behind 3, of several the first one", x, 2, -1, "0 6 5 4 3 2 1");
        x.setStop(6);
        arranged("two cuts", x, 2, -1, "0 6 2 1 5 4 3");
        arranged("3 behind 1 or 2 costs the same", rivals(2, 2, false, false), 2, -1, "0 1 2 3 4");
        arranged("3 behind 2 costs less", rivals(2, 3, false, false), 2, -1, "0 1 2 3 4");
        arranged("3 behind 1 costs less", rivals(3, 2, false, false), 2, -1, "0 1 3 4 2");
        BlockLayout cold = Programs.fiveBlocks();
        arranged("a hot block alone", cold, 2, 9999, "0 1 2 3 4");
        arranged("two hot blocks", cold, 2, 4, "0 4 1 2 3");
    }

    // ---- the promise

    private static void answers() {
        EDGES.holds(16, "Returns the sum of the costs of all hot blocks in the layout.");
        for (int method = 0; method <= 2; method++) {
            int by = method;
            EDGES.answers(BlockLayout::new, "of one block by " + by, x -> x.arrange(by, 9999), 0);
            EDGES.answers(() -> Programs.ofBlocks(7), "without weights by " + by, x -> x.arrange(by, -1), 0);
            EDGES.answers(Programs::fiveBlocks, "all hot by " + by, x -> x.arrange(by, 0), 27);
            EDGES.answers(Programs::fiveBlocks, "3 cold, whose jumps cost 4, by " + by, x -> x.arrange(by, 2), 23);
            EDGES.answers(Programs::fiveBlocks, "0 hot alone by " + by, x -> x.arrange(by, 6), 18);
        }
        for (int method = 0; method <= 2; method++) {
            BlockLayout x = Programs.ofBlocks(4);
            x.setGo(0, 1);
            x.setGo(1, 3);
            x.run(3);
            x.setGo(0, 3);
            x.run(2);
            // Counts 2 1 0 2: 1, whose jump costs 2, is the first cold block.
            EDGES.due("the jump of the first cold block is not in it", x.arrange(method, 1), 0);
            EDGES.due("but in that of all blocks", x.layout(5), 2);
        }
        EDGES.answers(Programs::misleading, "by 0", x -> x.arrange(0, -1), 50);
        EDGES.answers(Programs::misleading, "by 1", x -> x.arrange(1, -1), 50);
        EDGES.answers(Programs::misleading, "by 2", x -> x.arrange(2, -1), 44);
    }

    private static void methods() {
        EDGES.holds(16, "method: the method, 0 to 2");
        String[] orders = {"0 2 1", "0 1 2", "0 1 2"};
        for (int method = 0; method <= 2; method++) {
            BlockLayout x = Programs.ofBlocks(3);
            x.setIf(0, 2, 1, 1);
            x.setGo(2, 0);
            x.run(4);
            arranged("first and second block alike", x, method, -1, orders[method]);
            BlockLayout y = Programs.misleading();
            arranged("a heavy edge that misleads", y, method, -1, method == 2 ? "0 2 3 1 4" : "0 1 4 2 3");
        }
        EDGES.refused(Programs::misleading, Edges.ARGUMENT, "arrange(3, -1)", x -> x.arrange(3, -1));
        EDGES.refused(Programs::misleading, Edges.ARGUMENT, "arrange(-1, -1)", x -> x.arrange(-1, -1));
    }

    private static void refusesMethodsAndLimits() {
        EDGES.holds(16, "Throws IllegalArgumentException if there is no such method, or coldLimit is not from -1 to 9999");
        EDGES.range(BlockLayout::new, "arrange(.., 0) of 1", 0, 2, Edges.ARGUMENT, (x, method) -> x.arrange(method, 0));
        EDGES.range(Programs::busy, "arrange(.., -1)", 0, 2, Edges.ARGUMENT, (x, method) -> x.arrange(method, -1));
        for (int method = 0; method <= 2; method++) {
            int by = method;
            EDGES.range(Programs::busy, "arrange(" + by + ", ..)", -1, 9999, Edges.ARGUMENT, (x, n) -> x.arrange(by, n));
        }
        for (int method = 0; method <= 1; method++) {
            int by = method;
            EDGES.range(Programs::full, "arrange(" + by + ", ..) of 16", -1, 9999, Edges.ARGUMENT, (x, n) -> x.arrange(by, n));
        }
        EDGES.refused(Programs::busy, Edges.ARGUMENT, "arrange(3, -2)", x -> x.arrange(3, -2));
        EDGES.refused(Programs::busy, Edges.ARGUMENT, "arrange(-1, 10000)", x -> x.arrange(-1, 10000));
    }

    /** Blocks of which so many, block 0 among them, are executed once. */
    private static BlockLayout executed(int blocks, int executed) {
        BlockLayout x = Programs.ofBlocks(blocks);
        for (int b = 0; b + 1 < executed; b++) x.setGo(b, b + 1);
        x.run(500);
        x.setHot(1);
        return x;
    }

    private static void refusesManyBlocks() {
        EDGES.holds(16, "Throws UnsupportedOperationException if the method is 2 and there would be more than 7 hot blocks");
        for (int blocks : new int[] {6, 7, 8, 9, 16}) {
            if (blocks <= 7) {
                EDGES.answers(() -> executed(blocks, 2), "arrange(2, -1) of " + blocks, x -> x.arrange(2, -1), 0);
            } else {
                EDGES.refused(() -> executed(blocks, 2), Edges.UNSUPPORTED, "arrange(2, -1) of " + blocks, x -> x.arrange(2, -1));
            }
            EDGES.answers(() -> executed(blocks, 2), "arrange(0, -1) of " + blocks, x -> x.arrange(0, -1), 0);
            EDGES.answers(() -> executed(blocks, 2), "arrange(1, -1) of " + blocks, x -> x.arrange(1, -1), 0);
        }
        EDGES.answers(() -> executed(16, 6), "arrange(2, 0) with 6", x -> x.arrange(2, 0), 0);
        EDGES.answers(() -> executed(16, 7), "arrange(2, 0) with 7", x -> x.arrange(2, 0), 0);
        EDGES.refused(() -> executed(16, 8), Edges.UNSUPPORTED, "arrange(2, 0) with 8", x -> x.arrange(2, 0));
        EDGES.refused(() -> executed(16, 16), Edges.UNSUPPORTED, "arrange(2, 0) with 16", x -> x.arrange(2, 0));
        EDGES.answers(() -> executed(16, 16), "arrange(2, 1) with 1", x -> x.arrange(2, 1), 2);
        EDGES.answers(() -> executed(8, 8), "arrange(2, 1) of 8 with 1", x -> x.arrange(2, 1), 2);
        EDGES.refused(Programs::full, Edges.UNSUPPORTED, "arrange(2, -1) of 16", x -> x.arrange(2, -1));
        EDGES.refused(() -> executed(8, 8), Edges.ARGUMENT, "arrange(2, -2) of 8", x -> x.arrange(2, -2));
        EDGES.refused(() -> executed(8, 8), Edges.ARGUMENT, "arrange(2, 10000) of 8", x -> x.arrange(2, 10000));
        EDGES.refused(() -> executed(8, 8), Edges.ARGUMENT, "arrange(3, -1) of 8", x -> x.arrange(3, -1));
    }
}
