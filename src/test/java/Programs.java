/** Programs that several tests use; the comments say how they execute. */
final class Programs {
    private Programs() {
    }

    /** 0 falls into 1, 1 goes once to itself and then to 2: 0 1 1 2. Sizes 5, 3, 0. */
    static BlockLayout selfLoop() {
        BlockLayout x = new BlockLayout();
        x.clear(3);
        x.setSize(0, 5);
        x.setSize(1, 3);
        x.setGo(0, 1);
        x.setIf(1, 1, 2, 1);
        return x;
    }

    /**
     * Block 0 goes five times to 4, then to 1, which stops; 4 goes twice to 3 and three times to 2;
     * both go back to 0. Counts 6 1 3 2 5; weights 0>4 5, 0>1 1, 4>3 2, 4>2 3, 3>0 2, 2>0 3.
     */
    static BlockLayout fiveBlocks() {
        BlockLayout x = new BlockLayout();
        x.clear(5);
        x.setIf(0, 4, 1, 0b11111);
        x.setIf(4, 3, 2, 0b00011);
        x.setGo(3, 0);
        x.setGo(2, 0);
        x.run(17);
        return x;
    }

    /**
     * A program in which the heaviest edge misleads: weights 0>1 5, 0>2 4, 2>3 4, 3>1 4, 1>0 8, 1>4 1.
     */
    static BlockLayout misleading() {
        BlockLayout x = new BlockLayout();
        x.clear(5);
        x.setIf(0, 1, 2, 0x1f);
        x.setGo(2, 3);
        x.setGo(3, 1);
        x.setIf(1, 0, 4, 0xff);
        x.run(500);
        return x;
    }
}
