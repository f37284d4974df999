/** Promise 16: arranging by weights, by gains and by search. */
public final class ArrangeTest {
    private static final Check CHECK = new Check("ArrangeTest");

    public static void main(String[] args) {
        heaviestEdgesFirst();
        tieOfOneBlock();
        tieOfTwoBlocks();
        greatestGainsFirst();
        searchFindsTheLeast();
        chainsByWeightsIntoThem();
        noChainBehindItself();
        coldBlocks();
        coldBlocksJoinNothing();
        coldLimits();
        withoutProfile();
        searchedBlocks();
        wrongInputs();
        CHECK.finish();
    }

    private static void heaviestEdgesFirst() {
        BlockLayout x = Programs.misleading();
        CHECK.due("arrange(0, -1)", x.arrange(0, -1), 5 + 3 * 4 + 3 * 8 + 1 + 2 * 4);
        CHECK.due("the order by weights", Check.order(x), "0 1 4 2 3");
        CHECK.due("layout(2)", x.layout(2), 5);
        CHECK.due("layout(5)", x.layout(5), 50);
    }

    /** Block 0 goes once to 2, its first block, and once to 1. */
    private static BlockLayout tie() {
        BlockLayout x = new BlockLayout();
        x.clear(3);
        x.setIf(0, 2, 1, 1);
        x.setGo(2, 0);
        x.run(4);
        return x;
    }

    private static void tieOfOneBlock() {
        BlockLayout x = tie();
        CHECK.due("arrange(0, -1)", x.arrange(0, -1), 6);
        CHECK.due("the first block's edge leads by weights", Check.order(x), "0 2 1");
        CHECK.due("arrange(1, -1)", x.arrange(1, -1), 6);
        CHECK.due("the lowest block leads by gains", Check.order(x), "0 1 2");
        CHECK.due("arrange(2, -1)", x.arrange(2, -1), 6);
        CHECK.due("the lexicographically first order", Check.order(x), "0 1 2");
        x.invert(0);
        x.arrange(0, -1);
        CHECK.due("the first block's edge once more", Check.order(x), "0 1 2");
        x.arrange(1, -1);
        CHECK.due("the lowest block once more", Check.order(x), "0 1 2");
    }

    /** 0>2 1, 0>1 1, 1>3 1, 2>3 1: of 1 and 2, which both go to 3, the lower block gets it. */
    private static void tieOfTwoBlocks() {
        BlockLayout x = new BlockLayout();
        x.clear(5);
        x.setIf(0, 1, 2, 1);
        x.setGo(1, 3);
        x.setGo(2, 3);
        x.setIf(3, 0, 4, 1);
        x.run(10);
        x.setStop(0);
        CHECK.due("arrange(0, -1)", x.arrange(0, -1), 2 + 3 + 1);
        CHECK.due("1 before 3 by weights", Check.order(x), "0 1 3 4 2");
        CHECK.due("arrange(1, -1)", x.arrange(1, -1), 6);
        CHECK.due("1 before 3 by gains", Check.order(x), "0 1 3 4 2");
    }

    private static void greatestGainsFirst() {
        BlockLayout x = Programs.misleading();
        CHECK.due("arrange(1, -1)", x.arrange(1, -1), 50);
        CHECK.due("the order by gains", Check.order(x), "0 1 4 2 3");
    }

    private static void searchFindsTheLeast() {
        BlockLayout x = Programs.misleading();
        CHECK.due("arrange(2, -1)", x.arrange(2, -1), 3 * 5 + 4 + 3 * 8 + 1);
        CHECK.due("the order by search", Check.order(x), "0 2 3 1 4");
        BlockLayout y = Programs.fiveBlocks();
        CHECK.due("arrange(2, -1) of another", y.arrange(2, -1), 27);
        CHECK.due("the first of several orders", Check.order(y), "0 4 2 1 3");
    }

    private static void chainsByWeightsIntoThem() {
        BlockLayout x = Programs.fiveBlocks();
        CHECK.due("arrange(0, -1)", x.arrange(0, -1), 27);
        CHECK.due("3, to which 2 lead, before 1", Check.order(x), "0 4 2 3 1");
        x.exchange(1, 4);
        CHECK.due("arrange(1, -1)", x.arrange(1, -1), 27);
        CHECK.due("the order by gains", Check.order(x), "0 4 2 3 1");
        x.invert(4);
        x.arrange(0, -1);
        CHECK.due("weights to second blocks count as well", Check.order(x), "0 4 2 3 1");
        x.clearProfile();
        x.arrange(0, -1);
        CHECK.due("nothing is left of an earlier profile", Check.order(x), "0 1 2 3 4");
    }

    /** 1>2 5, 2>1 4, 0>1 1, 2>3 1: the second edge would close a ring. */
    private static void noChainBehindItself() {
        BlockLayout x = new BlockLayout();
        x.clear(4);
        x.setGo(0, 1);
        x.setGo(1, 2);
        x.setIf(2, 1, 3, 0b1111);
        x.run(12);
        for (int method = 0; method <= 2; method++) {
            x.exchange(1, 3);
            CHECK.due("arrange(" + method + ", -1)", x.arrange(method, -1), 3 * 4 + 1);
            CHECK.due("the order", Check.order(x), "0 1 2 3");
        }
    }

    /** 0>2 3, 0>1 1, 2>4 2, 2>3 1, 4>0 2, 1>3 1, 3>0 1, 3>5 1; 1 and 5 are cold, and 1 goes to the hot 3. */
    private static void coldBlocksJoinNothing() {
        BlockLayout x = new BlockLayout();
        x.clear(6);
        x.setIf(0, 2, 1, 0b111);
        x.setIf(2, 4, 3, 0b011);
        x.setGo(4, 0);
        x.setIf(3, 0, 5, 1);
        x.setGo(1, 3);
        CHECK.due("run(13)", x.run(13), 13);
        for (int method = 0; method <= 1; method++) {
            CHECK.due("arrange(" + method + ", 1)", x.arrange(method, 1), 6 + 5 + 4 + 6);
            CHECK.due("the order", Check.order(x), "0 2 4 3 1 5");
            CHECK.due("hot blocks", x.layout(2), 4);
            CHECK.due("the cost with the jump of 1", x.layout(5), 21 + 2);
        }
    }

    private static void coldBlocks() {
        BlockLayout x = Programs.fiveBlocks();
        CHECK.due("arrange(0, 1)", x.arrange(0, 1), 27);
        CHECK.due("1 is cold", Check.order(x), "0 4 2 3 1");
        CHECK.due("hot blocks", x.layout(2), 4);
        CHECK.due("arrange(1, 2)", x.arrange(1, 2), 23);
        CHECK.due("1 and 3 are cold", Check.order(x), "0 4 2 1 3");
        CHECK.due("hot blocks then", x.layout(2), 3);
        CHECK.due("the cost of all", x.layout(5), 27);
        CHECK.due("arrange(2, 3)", x.arrange(2, 3), 8 + 15);
        CHECK.due("1, 2 and 3 are cold", Check.order(x), "0 4 1 2 3");
        CHECK.due("the cost of all then", x.layout(5), 33);
        CHECK.due("arrange(0, 9999)", x.arrange(0, 9999), 18);
        CHECK.due("block 0 is never cold", Check.order(x), "0 1 2 3 4");
        CHECK.due("a hot block", x.layout(2), 1);
    }

    private static void coldLimits() {
        BlockLayout x = new BlockLayout();
        x.clear(3);
        x.setGo(0, 2);
        x.run(2);
        CHECK.due("arrange(0, 0)", x.arrange(0, 0), 0);
        CHECK.due("a count of 0 is cold at 0", Check.order(x), "0 2 1");
        CHECK.due("hot blocks", x.layout(2), 2);
        CHECK.due("arrange(0, -1)", x.arrange(0, -1), 0);
        CHECK.due("none is cold at -1", x.layout(2), 3);
        CHECK.due("arrange(0, 1)", x.arrange(0, 1), 2);
        CHECK.due("a count of 1 is cold at 1", x.layout(2), 1);
    }

    private static void withoutProfile() {
        BlockLayout x = new BlockLayout();
        x.clear(7);
        for (int b = 0; b < 6; b++) x.setGo(b, 6 - b);
        for (int method = 0; method <= 2; method++) {
            x.exchange(1, 5);
            CHECK.due("arrange(" + method + ", -1)", x.arrange(method, -1), 0);
            CHECK.due("the order without weights", Check.order(x), "0 1 2 3 4 5 6");
        }
    }

    private static void searchedBlocks() {
        BlockLayout x = new BlockLayout();
        x.clear(8);
        x.setGo(0, 7);
        x.setGo(7, 3);
        x.run(3);
        CHECK.fails("arrange(2, -1) of 8", UnsupportedOperationException.class, () -> x.arrange(2, -1));
        CHECK.due("arrange(0, -1) of 8", x.arrange(0, -1), 0);
        CHECK.due("arrange(2, 0)", x.arrange(2, 0), 0);
        CHECK.due("3 of 8 are hot", Check.order(x), "0 7 3 1 2 4 5 6");
        x.clear(7);
        x.setGo(0, 6);
        x.run(2);
        CHECK.due("arrange(2, -1) of 7", x.arrange(2, -1), 0);
        CHECK.due("the order of 7", Check.order(x), "0 6 1 2 3 4 5");
        x.clear(16);
        CHECK.due("arrange(2, 0) of 16", x.arrange(2, 0), 0);
        CHECK.due("1 of 16 is hot", x.layout(2), 1);
    }

    private static void wrongInputs() {
        BlockLayout x = Programs.fiveBlocks();
        for (int method : new int[] {-1, 3, Integer.MIN_VALUE, Integer.MAX_VALUE}) {
            CHECK.fails("arrange(" + method + ", 0)", IllegalArgumentException.class, () -> x.arrange(method, 0));
        }
        for (int limit : new int[] {-2, 10000, Integer.MIN_VALUE, Integer.MAX_VALUE}) {
            CHECK.fails("arrange(0, " + limit + ")", IllegalArgumentException.class, () -> x.arrange(0, limit));
        }
        BlockLayout y = new BlockLayout();
        y.clear(9);
        CHECK.fails("arrange(2, -2) of 9", IllegalArgumentException.class, () -> y.arrange(2, -2));
        CHECK.fails("arrange(2, -1) of 9", UnsupportedOperationException.class, () -> y.arrange(2, -1));
    }
}
