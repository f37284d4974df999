/** Promises 23 to 25: cycles, their mean, and the best alignment. */
public final class CyclesTest {
    private static final Check CHECK = new Check("CyclesTest");

    public static void main(String[] args) {
        cyclesOfForms();
        cyclesOfPadding();
        cyclesOfColdBlocks();
        meanCycles();
        bestAlignment();
        fewerCyclesLead();
        CHECK.finish();
    }

    private static void cyclesOfForms() {
        BlockLayout x = Programs.fiveBlocks();
        CHECK.due("cycles()", x.cycles(), 3 * 5 + 1 + 6 + 4 + 3 * 2 + 3 * 3);
        CHECK.due("as runLayout", x.runLayout(17), 41);
        x.run(17);
        CHECK.due("for two runs", x.cycles(), 82);
    }

    private static void cyclesOfPadding() {
        BlockLayout x = Programs.selfLoop();
        x.run(4);
        x.setAlignment(16);
        CHECK.due("1 for the edge of 0, none for the taken branch", x.cycles(), 5);
        x.setSize(0, 15);
        CHECK.due("1 for a byte of padding", x.cycles(), 5);
        CHECK.due("1 for it in runLayout", x.runLayout(4), 5);
        x.setSize(0, 16);
        CHECK.due("an aligned block without padding", x.cycles(), 4);
        x.setSize(0, 17);
        x.exchange(1, 2);
        CHECK.due("padding that is jumped over", x.cycles(), 2 + 3 + 3);
        CHECK.due("is there", x.place(1, 2), 32 - 20);
        BlockLayout y = new BlockLayout();
        y.clear(3);
        y.setSize(0, 1);
        y.setIf(0, 2, 1, 0);
        y.setIf(1, 1, 2, 3);
        y.run(5);
        y.setAlignment(8);
        CHECK.due("1 for the branch that is not taken", y.cycles(), 1 + 1 + 3 + 3 + 1);
        y.invert(0);
        CHECK.due("1 for the inverted branch that is not taken", y.cycles(), 1 + 1 + 3 + 3 + 1);
        CHECK.due("as runLayout", y.runLayout(5), 9);
    }

    private static void cyclesOfColdBlocks() {
        BlockLayout x = Programs.selfLoop();
        x.run(4);
        x.setHot(1);
        CHECK.due("a jump into the cold section costs no padding", x.cycles(), 2 + 3 + 1);
        CHECK.due("as runLayout", x.runLayout(4), 6);
    }

    private static void meanCycles() {
        BlockLayout x = Programs.selfLoop();
        CHECK.fails("meanCycles() without a profile", ArithmeticException.class, x::meanCycles);
        x.run(4);
        CHECK.due("meanCycles()", x.meanCycles(), 1.0);
        x.setAlignment(16);
        CHECK.due("meanCycles() with padding", x.meanCycles(), 1.25);
        BlockLayout y = Programs.fiveBlocks();
        CHECK.due("meanCycles() of another", y.meanCycles(), 41.0 / 17.0);
        y.clearProfile();
        CHECK.fails("meanCycles() after clearProfile", ArithmeticException.class, y::meanCycles);
        BlockLayout z = new BlockLayout();
        z.run(1);
        CHECK.due("meanCycles() of a return", z.meanCycles(), 0.0);
    }

    /**
     * With the alignment 16 block 1 comes so near to the cold block 2 that the way back is short;
     * with 32 it is short as well, with less it is long.
     */
    private static void bestAlignment() {
        BlockLayout x = new BlockLayout();
        CHECK.due("bestAlignment() of a new object", x.bestAlignment(), 1);
        x.clear(3);
        x.setSize(0, 5);
        x.setSize(1, 60);
        x.setSize(2, 8);
        x.setGo(0, 1);
        x.setGo(1, 2);
        x.setGo(2, 1);
        x.setHot(2);
        CHECK.due("nothing is aligned", x.bestAlignment(), 1);
        x.setLoopLimit(0);
        CHECK.due("the lowest end", x.bestAlignment(), 16);
        CHECK.due("the alignment stays", x.layout(7), 1);
        CHECK.due("the end with 1", x.layout(1), 141);
        x.setAlignment(16);
        CHECK.due("the end with 16", x.layout(1), 138);
        x.setAlignment(32);
        CHECK.due("the end with 32", x.layout(1), 138);
        CHECK.due("whatever the alignment is", x.bestAlignment(), 16);
        CHECK.due("the alignment stays at 32", x.layout(7), 32);
        CHECK.due("undo() undoes the calls of setAlignment alone", x.undo(), 2);
        CHECK.due("the alignment before", x.layout(7), 16);
        x.setSize(2, 15);
        CHECK.due("a way back that only 32 makes short", x.bestAlignment(), 32);
    }

    private static void fewerCyclesLead() {
        BlockLayout x = new BlockLayout();
        x.clear(4);
        x.setSize(0, 5);
        x.setSize(1, 60);
        x.setSize(2, 8);
        x.setGo(0, 1);
        x.setGo(1, 2);
        x.setIf(2, 1, 3, 0);
        x.setHot(2);
        x.setLoopLimit(0);
        CHECK.due("the lowest end without weights", x.bestAlignment(), 16);
        x.run(4);
        CHECK.due("the least cycles with them", x.bestAlignment(), 1);
    }
}
