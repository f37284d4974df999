/** Programs that several tests use; the comments say how they execute. */
final class Programs {
    private Programs() {
    }

    /** 0 falls into 1, 1 goes once to itself and then to 2: 0 1 1 2. Sizes 5, 3, 0. */
    static BlockLayout selfLoop() {
        BlockLayout x = new BlockLayout();
        x.clear(3);
        x.setSize(0, 5);
        x.setSize(1, 3);
        x.setGo(0, 1);
        x.setIf(1, 1, 2, 1);
        return x;
    }

    /**
     * Block 0 goes five times to 4, then to 1, which stops; 4 goes twice to 3 and three times to 2;
     * both go back to 0. Counts 6 1 3 2 5; weights 0>4 5, 0>1 1, 4>3 2, 4>2 3, 3>0 2, 2>0 3.
     */
    static BlockLayout fiveBlocks() {
        BlockLayout x = new BlockLayout();
        x.clear(5);
        x.setIf(0, 4, 1, 0b11111);
        x.setIf(4, 3, 2, 0b00011);
        x.setGo(3, 0);
        x.setGo(2, 0);
        x.run(17);
        return x;
    }

    /**
     * A program in which the heaviest edge misleads: weights 0>1 5, 0>2 4, 2>3 4, 3>1 4, 1>0 8, 1>4 1.
     */
    static BlockLayout misleading() {
        BlockLayout x = new BlockLayout();
        x.clear(5);
        x.setIf(0, 1, 2, 0x1f);
        x.setGo(2, 3);
        x.setGo(3, 1);
        x.setIf(1, 0, 4, 0xff);
        x.run(500);
        return x;
    }

    /** So many blocks, all as clear leaves them. */
    static BlockLayout ofBlocks(int blocks) {
        BlockLayout x = new BlockLayout();
        x.clear(blocks);
        return x;
    }

    /** Five blocks in a state in which nothing is as at first; the input is the text "7 go 1". */
    static BlockLayout busy() {
        BlockLayout x = busyWithoutInput();
        Check.feed(x, "7 go 1");
        return x;
    }

    static BlockLayout busyWithoutInput() {
        BlockLayout x = fiveBlocks();
        x.setSize(0, 11);
        x.setSize(1, 60);
        x.setSize(2, 33);
        x.setSize(3, 60);
        x.setSize(4, 7);
        x.setLoopLimit(2);
        x.exchange(1, 4);
        x.setAlignment(8);
        x.arrange(1, 1);
        x.exchange(2, 3);
        x.setHot(3);
        return x;
    }

    /**
     * Sixteen blocks in which every number that can be full is: 60 characters of input, more calls than can be
     * undone, sizes of 60, and a path of 500.
     */
    static BlockLayout full() {
        BlockLayout x = lasting(500);
        for (int b = 0; b < 16; b++) x.setSize(b, 60);
        x.run(500);
        for (int count = 16; count >= 4; count--) x.setHot(count);
        for (int i = 0; i < 60; i++) x.feed((char) ('0' + i % 10));
        return x;
    }

    /** A program that executes exactly so many blocks: from 1 to 33, or from 482 to 513. */
    static BlockLayout lasting(int executed) {
        if (executed <= 33) return shortLasting(executed);
        BlockLayout x = ofBlocks(16);
        // A ring of 14 blocks, of which block 0 is executed twice each time, goes round 32 times: 480.
        x.setIf(0, 0, 1, 0x55555555);
        for (int b = 1; b < 13; b++) x.setGo(b, b + 1);
        x.setIf(13, 0, 14, 0x7fffffff);
        x.setIf(14, 14, 15, bits(executed - 482));
        return x;
    }

    private static BlockLayout shortLasting(int executed) {
        BlockLayout x = ofBlocks(2);
        if (executed > 1) x.setIf(0, 0, 1, bits(executed - 2));
        return x;
    }

    /** So many ones from bit 0 on. */
    static int bits(int ones) {
        return (int) ((1L << ones) - 1);
    }

    /**
     * Block 0 has the pattern and is executed 96 times: three times as often as it has bits. It goes to 1 where
     * the condition is true and to 2 where not, so pathBlock(3 * k + 1 + k / 32) tells it for the k-th time.
     */
    static BlockLayout conditions(int pattern) {
        BlockLayout x = ofBlocks(6);
        x.setIf(0, 1, 2, pattern);
        x.setGo(1, 3);
        x.setGo(2, 3);
        x.setIf(3, 0, 4, 0x7fffffff);
        x.setIf(4, 0, 5, 0b11);
        return x;
    }

    /** The condition of block 0 for the k-th time, in the latest execution of such a program. */
    static boolean conditionAt(BlockLayout x, int k) {
        return x.pathBlock(3 * k + 1 + k / 32) == 1;
    }

    /** The lowest 32 conditions of the latest execution, as the bits of an int. */
    static int patternSeen(BlockLayout x) {
        int pattern = 0;
        for (int k = 0; k < 32; k++) pattern |= conditionAt(x, k) ? 1 << k : 0;
        return pattern;
    }
}
