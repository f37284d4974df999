/** The three examples of the document's description. */
public final class ExamplesTest {
    private static final Check CHECK = new Check("ExamplesTest");

    public static void main(String[] args) {
        hotEdge();
        placesBehindAnAlignment();
        invertedBranch();
        CHECK.finish();
    }

    private static void hotEdge() {
        BlockLayout x = new BlockLayout();
        CHECK.due("clear(3)", x.clear(3), 1);
        CHECK.due("setIf(0, 1, 2, 3)", x.setIf(0, 1, 2, 3), 2);
        CHECK.due("setGo(1, 0)", x.setGo(1, 0), 2);
        CHECK.due("run(10)", x.run(10), 6);
        CHECK.due("block(0, 5)", x.block(0, 5), 2);
        CHECK.due("end(0, 0)", x.end(0, 0), 3);
        CHECK.due("end(1, 0)", x.end(1, 0), 1);
        CHECK.due("cycles()", x.cycles(), 9);
        CHECK.due("arrange(1, -1)", x.arrange(1, -1), 9);
        CHECK.due("order(1)", x.order(1), 1);
    }

    private static void placesBehindAnAlignment() {
        BlockLayout x = new BlockLayout();
        CHECK.due("clear(2)", x.clear(2), 1);
        CHECK.due("setSize(0, 10)", x.setSize(0, 10), 0);
        CHECK.due("setGo(0, 1)", x.setGo(0, 1), 2);
        CHECK.due("end(0, 0)", x.end(0, 0), 0);
        CHECK.due("place(1, 1)", x.place(1, 1), 10);
        CHECK.due("setHot(1)", x.setHot(1), 2);
        CHECK.due("place(1, 1) behind the hot block", x.place(1, 1), 64);
        CHECK.due("end(0, 1)", x.end(0, 1), 2);
    }

    private static void invertedBranch() {
        BlockLayout x = new BlockLayout();
        CHECK.due("clear(2)", x.clear(2), 1);
        CHECK.due("setIf(0, 1, 0, 1)", x.setIf(0, 1, 0, 1), 2);
        CHECK.due("end(0, 0)", x.end(0, 0), 3);
        CHECK.due("invert(0)", x.invert(0), 0);
        CHECK.due("end(0, 0) inverted", x.end(0, 0), 2);
        CHECK.due("block(0, 2)", x.block(0, 2), 0);
    }
}
