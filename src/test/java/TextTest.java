/** Promises 26 and 27: the input and its texts. */
public final class TextTest {
    private static final Check CHECK = new Check("TextTest");

    public static void main(String[] args) {
        feed();
        texts();
        faults();
        faultsChangeNothing();
        nothingIsLeftOfAnEarlierText();
        textsThatDoNotFit();
        readDoesWhatSettersDo();
        readOfNoBlock();
        CHECK.finish();
    }

    private static void feed() {
        BlockLayout x = new BlockLayout();
        for (int i = 1; i <= 60; i++) {
            CHECK.due("feed, the " + i + "th", x.feed((char) (i * 1000)), i);
        }
        CHECK.fails("feed, the 61st", IllegalStateException.class, () -> x.feed('1'));
        CHECK.fails("feed, once more", IllegalStateException.class, () -> x.feed((char) 0));
        CHECK.due("read(0)", x.read(0), -100);
        CHECK.due("feed after read", x.feed('1'), 1);
    }

    private static int read(BlockLayout x, int block, String text) {
        Check.feed(x, text);
        return x.read(block);
    }

    private static void texts() {
        BlockLayout x = new BlockLayout();
        x.clear(16);
        CHECK.due("stop", read(x, 3, "60 stop"), 2);
        CHECK.due("size", x.block(3, 0), 60);
        CHECK.due("kind", x.block(3, 1), 2);
        CHECK.due("go", read(x, 3, "7 go 15"), 0);
        CHECK.due("size", x.block(3, 0), 7);
        CHECK.due("kind", x.block(3, 1), 0);
        CHECK.due("target", x.block(3, 2), 15);
        CHECK.due("no second block", x.block(3, 3), -1);
        CHECK.due("if", read(x, 3, "00 if 09 3 -0"), 1);
        CHECK.due("size", x.block(3, 0), 0);
        CHECK.due("first", x.block(3, 2), 9);
        CHECK.due("second", x.block(3, 3), 3);
        CHECK.due("stop once more", read(x, 3, "5 stop"), 2);
        CHECK.due("no first block", x.block(3, 2), -1);
        CHECK.due("a pattern of six digits", read(x, 0, "1 if 1 2 999999"), 1);
        CHECK.due("999999 is odd", x.run(2), 2);
        CHECK.due("so to the first block", x.pathBlock(1), 1);
        CHECK.due("a pattern below 0", read(x, 0, "1 if 0 2 -999999"), 1);
        CHECK.due("its bits are 1 0 0 ..", x.run(3), 3);
        CHECK.due("so to the second block then", Check.path(x), "0 0 2");
    }

    private static void fault(String text, int position) {
        BlockLayout x = new BlockLayout();
        x.clear(16);
        CHECK.due("read of '" + text + "'", read(x, 0, text), -100 - position);
        CHECK.due("the input after it", x.feed('1'), 1);
    }

    private static void faults() {
        fault("", 0);
        fault("x", 0);
        fault(" 1 stop", 0);
        fault("-1 stop", 0);
        fault("5", 1);
        fault("55", 2);
        fault("555 stop", 2);
        fault("5stop", 1);
        fault("5 ", 2);
        fault("5  stop", 2);
        fault("5 x", 2);
        fault("5 S", 2);
        fault("5 s", 3);
        fault("5 sto", 5);
        fault("5 sgo", 3);
        fault("5 stip", 4);
        fault("5 stop ", 6);
        fault("5 stopp", 6);
        fault("5 g", 3);
        fault("5 go", 4);
        fault("5 go1", 4);
        fault("5 go ", 5);
        fault("5 go x", 5);
        fault("5 go 123", 7);
        fault("5 go 12 ", 7);
        fault("5 go 1 2", 6);
        fault("5 i", 3);
        fault("5 in", 3);
        fault("5 if", 4);
        fault("5 if ", 5);
        fault("5 if 1", 6);
        fault("5 if 1 ", 7);
        fault("5 if 111 2 3", 7);
        fault("5 if 1 2", 8);
        fault("5 if 1 222 3", 9);
        fault("5 if 1 2 ", 9);
        fault("5 if 1 2 x", 9);
        fault("5 if 1 2 -", 10);
        fault("5 if 1 2 --1", 10);
        fault("5 if 1 2 +1", 9);
        fault("5 if 1 2 1234567", 15);
        fault("5 if 1 2 -1234567", 16);
        fault("5 if 1 2 1 ", 10);
        fault("5 if 1 2 1-", 10);
        fault("5 if 1 1 ", 9);
        fault("99 stop x", 7);
        fault((char) 0x661 + " stop", 0);
        fault("5 go " + (char) ('1' + 256), 5);
    }

    private static void faultsChangeNothing() {
        BlockLayout x = Programs.selfLoop();
        x.run(4);
        Check.feed(x, "9 go 1 ");
        String before = Check.seen(x);
        CHECK.due("read(1)", x.read(1), -106);
        CHECK.due("the state after a fault", Check.seen(x), before);
    }

    private static void nothingIsLeftOfAnEarlierText() {
        BlockLayout x = new BlockLayout();
        CHECK.due("a text", read(x, 0, "55 stop"), 2);
        CHECK.due("a number that ends too early", read(x, 0, "5"), -101);
        CHECK.due("another text", read(x, 0, "5 stop"), 2);
        CHECK.due("a word that ends too early", read(x, 0, "5 sto"), -105);
    }

    private static void misfit(String text) {
        BlockLayout x = Programs.selfLoop();
        x.run(4);
        Check.feed(x, text);
        CHECK.fails("read of '" + text + "'", IllegalArgumentException.class, () -> x.read(1));
        CHECK.due("the input after '" + text + "'", x.feed('1'), 1);
    }

    private static void textsThatDoNotFit() {
        misfit("61 stop");
        misfit("99 go 1");
        misfit("61 if 1 2 3");
        misfit("5 go 3");
        misfit("5 go 99");
        misfit("5 if 3 1 0");
        misfit("5 if 1 3 0");
        misfit("5 if 1 1 0");
        misfit("5 if 3 3 0");
        misfit("5 if 01 1 0");
    }

    private static void readDoesWhatSettersDo() {
        BlockLayout x = Programs.selfLoop();
        x.run(4);
        CHECK.due("read(1)", read(x, 1, "3 if 1 2 1"), 1);
        CHECK.due("the first weight becomes 0", x.block(1, 5), 0);
        CHECK.due("the second weight becomes 0", x.block(1, 6), 0);
        CHECK.due("the count stays", x.block(1, 4), 2);
        CHECK.due("another weight stays", x.block(0, 5), 1);
        CHECK.due("a loop head", x.block(1, 7), 1);
        CHECK.due("read(1) of a stop", read(x, 1, "3 stop"), 2);
        CHECK.due("no loop head", x.block(1, 7), 0);
        CHECK.due("read(0)", read(x, 0, "4 go 1"), 0);
        CHECK.due("the weight becomes 0", x.block(0, 5), 0);
        CHECK.fails("undo(), for read is not undone", java.util.NoSuchElementException.class, x::undo);
    }

    private static void readOfNoBlock() {
        BlockLayout x = Programs.selfLoop();
        Check.feed(x, "9 stop");
        for (int b : new int[] {-1, 3, 16, Integer.MIN_VALUE, Integer.MAX_VALUE}) {
            CHECK.fails("read(" + b + ")", IndexOutOfBoundsException.class, () -> x.read(b));
        }
        CHECK.due("the input stays", x.read(2), 2);
        CHECK.due("and is read", x.block(2, 0), 9);
        Check.feed(x, "x");
        CHECK.fails("read(3) of a fault", IndexOutOfBoundsException.class, () -> x.read(3));
        CHECK.due("a fault stays", x.read(0), -100);
    }
}
