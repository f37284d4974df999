/** The boundaries of promises 26 and 27. */
public final class EdgesOfTextTest {
    private static final Edges EDGES = new Edges("EdgesOfTextTest");
    private static final String[] TEXTS = {
        "0 stop", "60 stop", "9 go 0", "00 go 04", "1 if 0 1 0", "59 if 03 2 -1", "5 if 4 00 999999", "07 if 1 04 -999999",
    };

    public static void main(String[] args) {
        feedLengths();
        feedRefuses();
        readSets();
        emptyAfterwards();
        numbers();
        patterns();
        faultAtEveryOffset();
        endsTooEarly();
        faultsOfTheGrammar();
        characters();
        blockDoesNotChange();
        refusesBlocks();
        refusesTexts();
        EDGES.finish();
    }

    private static BlockLayout fed(BlockLayout x, String text) {
        Check.feed(x, text);
        return x;
    }

    private static Edges.Maker busyFed(String text) {
        return () -> fed(Programs.busyWithoutInput(), text);
    }

    private static Object read(String text) {
        BlockLayout x = fed(Programs.ofBlocks(5), text);
        return Check.outcome(() -> x.read(0));
    }

    private static void fault(String text, int position) {
        EDGES.due("read of '" + text + "'", read(text), -100 - position);
    }

    // ---- feed

    private static void feedLengths() {
        EDGES.holds(26, "Appends a character to the input, which is empty at first.");
        EDGES.answers(BlockLayout::new, "read(0) of the input at first", x -> x.read(0), -100);
        EDGES.answers(BlockLayout::new, "feed, the first", x -> x.feed('5'), 1);
        BlockLayout x = new BlockLayout();
        Check.feed(x, "60 sto");
        EDGES.due("clear(3), which is no reading", x.clear(3), 1);
        x.feed('p');
        EDGES.due("characters in the order in which they came", x.read(2), 2);
        EDGES.due("the size that was fed", x.block(2, 0), 60);
        EDGES.holds(26, "Returns the length of the input.");
        BlockLayout y = new BlockLayout();
        for (int i = 1; i <= 60; i++) EDGES.due("feed, number " + i, y.feed((char) (i * 1111)), i);
        EDGES.due("feed of one more", Check.outcome(() -> y.feed('1')), "IllegalStateException");
        EDGES.due("read(0)", y.read(0), -100);
        for (int i = 1; i <= 60; i++) EDGES.due("feed after read, number " + i, y.feed('1'), i);
    }

    private static BlockLayout with(int characters) {
        BlockLayout x = Programs.busyWithoutInput();
        Check.feed(x, "5 if 1 2 123456");
        for (int i = 15; i < characters; i++) x.feed(' ');
        return x;
    }

    private static void feedRefuses() {
        EDGES.holds(26, "Throws IllegalStateException if the input has 60 characters");
        EDGES.answers(() -> with(58), "feed with 58 before", x -> x.feed(' '), 59);
        EDGES.answers(() -> with(59), "feed with 59 before", x -> x.feed(' '), 60);
        for (char character : new char[] {0, ' ', '0', 's', 255, 256, 65535}) {
            EDGES.refused(() -> with(60), Edges.FULL, "feed(" + (int) character + ") with 60 before", x -> x.feed(character));
            EDGES.refused(Programs::full, Edges.FULL, "feed(" + (int) character + ") once more", x -> x.feed(character));
        }
        EDGES.answers(() -> with(60), "the fault among the 60", x -> x.read(0), -115);
    }

    // ---- read

    private static void readSets() {
        EDGES.holds(27, "Parses the input and sets size and end of a block by it, as setSize and setGo, setIf or setStop do.");
        for (int b : new int[] {0, 3, 4}) {
            EDGES.leaves(busyFed("60 stop"), "read(" + b + ") of a stop", x -> x.read(b), 2, () -> {
                BlockLayout x = Programs.busyWithoutInput();
                x.setSize(b, 60);
                x.setStop(b);
                return x;
            });
            EDGES.leaves(busyFed("0 go 4"), "read(" + b + ") of a go", x -> x.read(b), 0, () -> {
                BlockLayout x = Programs.busyWithoutInput();
                x.setSize(b, 0);
                x.setGo(b, 4);
                return x;
            });
            EDGES.leaves(busyFed("7 if 1 00 -42"), "read(" + b + ") of an if", x -> x.read(b), 1, () -> {
                BlockLayout x = Programs.busyWithoutInput();
                x.setSize(b, 7);
                x.setIf(b, 1, 0, -42);
                return x;
            });
        }
        EDGES.holds(27, "Returns the new kind of its end; -100 minus the fault position if the input is no text, in which case the "
            + "block does not change.");
        int[] kinds = {2, 2, 0, 0, 1, 1, 1, 1};
        for (int i = 0; i < TEXTS.length; i++) EDGES.due("read of '" + TEXTS[i] + "'", read(TEXTS[i]), kinds[i]);
        BlockLayout x = Programs.ofBlocks(5);
        for (int i : new int[] {0, 2, 4, 2, 0, 4, 0, 0, 2, 2, 4, 4}) {
            Check.feed(x, TEXTS[i]);
            EDGES.due("read of '" + TEXTS[i] + "' behind another", x.read(1), kinds[i]);
            EDGES.due("the kind", x.block(1, 1), kinds[i]);
        }
    }

    private static void emptyAfterwards() {
        EDGES.holds(27, "The input is empty afterwards, except after an IndexOutOfBoundsException.");
        EDGES.due("after a text", lengthAfter("5 stop", 0), 1);
        EDGES.due("after no text", lengthAfter("5 stopp", 0), 1);
        EDGES.due("after an input that ends too early", lengthAfter("5 sto", 0), 1);
        EDGES.due("after no character", lengthAfter("", 0), 1);
        EDGES.due("after a size that is too large", lengthAfter("61 stop", 0), 1);
        EDGES.due("after a block that does not exist", lengthAfter("5 go 5", 0), 1);
        EDGES.due("after two blocks that are the same", lengthAfter("5 if 1 1 1", 0), 1);
        EDGES.due("of 5, after read(5)", lengthAfter("5 stop", 5), 7);
        EDGES.due("of 5, after read(-1)", lengthAfter("5 stop", -1), 7);
        EDGES.due("of 5, after read(5) of no text", lengthAfter("x", 5), 2);
        EDGES.due("of 5, after read(5) of a size that is too large", lengthAfter("61 stop", 5), 8);
        EDGES.due("of 5, after read(5) of no character", lengthAfter("", 5), 1);
        BlockLayout x = fed(Programs.ofBlocks(5), "5 st");
        EDGES.due("read(5)", Check.outcome(() -> x.read(5)), "IndexOutOfBoundsException");
        Check.feed(x, "op");
        EDGES.due("the input went on behind the exception", x.read(4), 2);
    }

    private static Object lengthAfter(String text, int block) {
        BlockLayout x = fed(Programs.ofBlocks(5), text);
        Check.outcome(() -> x.read(block));
        return x.feed('#');
    }

    private static final String GRAMMAR = "The grammar is, with terminals in quotes: text = number \" \" ( \"stop\" | \"go \" number | "
        + "\"if \" number \" \" number \" \" pattern ); pattern = [ \"-\" ] digit { digit }, with at most 6 digits; number = digit [ "
        + "digit ].";

    private static void numbers() {
        EDGES.holds(27, GRAMMAR);
        for (String size : new String[] {"0", "1", "9", "00", "01", "09", "10", "19", "59", "60"}) {
            BlockLayout x = fed(new BlockLayout(), size + " stop");
            EDGES.due("a number of 1 or 2 digits: " + size, x.read(0), 2);
            EDGES.due("its value", x.block(0, 0), Integer.parseInt(size));
        }
        for (String to : new String[] {"0", "9", "00", "09", "10", "15"}) {
            BlockLayout x = fed(Programs.ofBlocks(16), "5 go " + to);
            EDGES.due("a go to " + to, x.read(3), 0);
            EDGES.due("the block", x.block(3, 2), Integer.parseInt(to));
            Check.feed(x, "5 if " + to + " 8 1");
            EDGES.due("an if to " + to + " first", x.read(3), 1);
            EDGES.due("the first block", x.block(3, 2), Integer.parseInt(to));
            Check.feed(x, "5 if 8 " + to + " 1");
            EDGES.due("an if to " + to + " second", x.read(3), 1);
            EDGES.due("the second block", x.block(3, 3), Integer.parseInt(to));
        }
        fault(" stop", 0);
        fault("000 stop", 2);
        fault("123 stop", 2);
        fault("5 go 123", 7);
        fault("5 go 001", 7);
        fault("5 if 123 1 1", 7);
        fault("5 if 1 123 1", 9);
        fault("-5 stop", 0);
        fault("5 go -1", 5);
        fault("5 if -1 1 1", 5);
        fault("5 if 1 -1 1", 7);
    }

    private static void patterns() {
        EDGES.holds(27, GRAMMAR);
        String[] patterns = {
            "0", "9", "-0", "-1", "-9", "10", "-10", "000001", "-000001", "99999", "-99999", "999999", "-999999", "100000",
        };
        for (String pattern : patterns) {
            BlockLayout x = fed(Programs.conditions(7), "5 if 1 2 " + pattern);
            EDGES.due("a pattern of 1 to 6 digits: " + pattern, x.read(0), 1);
            x.run(500);
            EDGES.due("its bits", Programs.patternSeen(x), Integer.parseInt(pattern));
        }
        fault("5 if 1 2 ", 9);
        fault("5 if 1 2 -", 10);
        fault("5 if 1 2 --1", 10);
        fault("5 if 1 2 +1", 9);
        fault("5 if 1 2 1-", 10);
        fault("5 if 1 2 1234567", 15);
        fault("5 if 1 2 0000000", 15);
        fault("5 if 1 2 -1234567", 16);
        fault("5 if 1 2 -0000000", 16);
    }

    private static final String FAULT = "The fault position is the offset of the first character that cannot continue a text, or the "
        + "length of the input if it ends too early.";

    private static void faultAtEveryOffset() {
        EDGES.holds(27, FAULT);
        for (String text : TEXTS) {
            for (int i = 0; i < text.length(); i++) {
                fault(text.substring(0, i) + "#" + text.substring(i + 1), i);
                fault(text.substring(0, i) + "#", i);
                fault(text.substring(0, i) + (char) (text.charAt(i) + 256) + text.substring(i + 1), i);
            }
            fault(text + "#", text.length());
            fault(text + " ", text.length());
            fault(text + (char) 0, text.length());
        }
    }

    private static boolean isTextAlready(String start) {
        return start.matches("\\d\\d? (stop|go \\d\\d?|if \\d\\d? \\d\\d? -?\\d{1,6})");
    }

    private static void endsTooEarly() {
        EDGES.holds(27, FAULT);
        fault("", 0);
        for (String text : TEXTS) {
            for (int i = 0; i < text.length(); i++) {
                String start = text.substring(0, i);
                if (!isTextAlready(start)) fault(start, i);
            }
        }
        EDGES.due("a text that could go on, but need not", read("5 go 1"), 0);
        EDGES.due("a pattern that could go on, but need not", read("5 if 1 2 3"), 1);
    }

    private static void faultsOfTheGrammar() {
        EDGES.holds(27, FAULT);
        fault("5  stop", 2);
        fault(" 5 stop", 0);
        fault("5stop", 1);
        fault("5 stopp", 6);
        fault("5 stop 1", 6);
        fault("5 stxp", 4);
        fault("5 Stop", 2);
        fault("5 go1", 4);
        fault("5 go  1", 5);
        fault("5 gx", 3);
        fault("5 go 1 2", 6);
        fault("5 if1 2 3", 4);
        fault("5 if 1,2 3", 6);
        fault("5 if 1 2,3", 8);
        fault("5 if 1  2 3", 7);
        fault("5 if 1 2  3", 9);
        fault("5 if 1 2 3 ", 10);
        fault("5 ix", 3);
        fault("5 5", 2);
        fault("5\tstop", 1);
        fault("5 stop\n", 6);
        StringBuilder longest = new StringBuilder("5 if 1 2 3");
        while (longest.length() < 60) longest.append(' ');
        fault(longest.toString(), 10);
        longest.setLength(0);
        while (longest.length() < 60) longest.append('5');
        fault(longest.toString(), 2);
        EDGES.holds(27, GRAMMAR);
        EDGES.due("the longest text of all", read("60 if 04 03 -999999"), 1);
    }

    private static void characters() {
        EDGES.holds(27, FAULT);
        for (char character : new char[] {0, '/', ':', '0' + 256, '9' + 256, 0x0660, 0x0966, 0xff10, 65535}) {
            fault(character + " stop", 0);
            fault("5" + character + "stop", 1);
            fault("5 go " + character, 5);
            fault("5 go 1" + character, 6);
            fault("5 if 1 2 " + character, 9);
            fault("5 if 1 2 -" + character, 10);
            fault("5 if 1 2 3" + character, 10);
        }
        EDGES.due("the least digit", read("0 stop"), 2);
        EDGES.due("the greatest digit", read("9 stop"), 2);
    }

    private static void blockDoesNotChange() {
        EDGES.holds(27, "Returns the new kind of its end; -100 minus the fault position if the input is no text, in which case the "
            + "block does not change.");
        String[] noTexts = {"", "9", "9 go 1 ", "9 stopp", "9 if 1 2 ", "9 if 1 2 1234567", "61 sto", "99 go 99#", "9 if 1 1 #"};
        for (String text : noTexts) {
            int position = text.endsWith("4567") ? 15 : text.endsWith("#") || text.endsWith("1 ") || text.endsWith("pp")
                ? text.length() - 1 : text.length();
            for (int b : new int[] {0, 1, 4}) {
                EDGES.leaves(busyFed(text), "read(" + b + ") of '" + text + "'", x -> x.read(b), -100 - position,
                    Programs::busyWithoutInput);
            }
        }
    }

    private static void refusesBlocks() {
        EDGES.holds(27, "Throws IndexOutOfBoundsException if there is no such block");
        EDGES.indices(BlockLayout::new, "read of 1 without input", 1, (x, b) -> x.read(b));
        EDGES.indices(Programs::busy, "read of 5 with a text", 5, (x, b) -> x.read(b));
        EDGES.indices(Programs::full, "read of 16 with 60 characters", 16, (x, b) -> x.read(b));
        for (String text : new String[] {"61 stop", "5 go 5", "5 if 1 1 1"}) {
            for (int b : new int[] {-1, 5, Edges.LEAST, Edges.MOST}) {
                EDGES.refused(busyFed(text), Edges.INDEX, "read(" + b + ") of '" + text + "'", x -> x.read(b));
            }
        }
    }

    private static void unfit(String text) {
        for (int b : new int[] {0, 1, 4}) {
            EDGES.refused(busyFed(text), Programs::busyWithoutInput, Edges.ARGUMENT, "read(" + b + ") of '" + text + "'",
                x -> x.read(b));
        }
    }

    private static void refusesTexts() {
        EDGES.holds(27, "Throws IllegalArgumentException if the input is a text, and the size is above 60, a block to which the end "
            + "would go does not exist, or the first and the second block are the same");
        EDGES.due("a size of 60", read("60 stop"), 2);
        unfit("61 stop");
        unfit("99 stop");
        EDGES.due("60 and a go", read("60 go 4"), 0);
        unfit("61 go 4");
        EDGES.due("60 and an if", read("60 if 4 3 0"), 1);
        unfit("61 if 4 3 0");
        unfit("5 go 5");
        unfit("5 go 05");
        unfit("5 go 16");
        unfit("5 go 99");
        unfit("5 if 5 1 0");
        unfit("5 if 1 5 0");
        unfit("5 if 99 1 0");
        unfit("5 if 1 99 0");
        unfit("5 if 5 6 0");
        unfit("5 if 5 5 0");
        unfit("5 if 0 0 0");
        unfit("5 if 4 4 -1");
        unfit("5 if 04 4 0");
        unfit("5 if 4 04 0");
        unfit("61 if 5 5 0");
        EDGES.due("4 and 3", read("5 if 4 3 0"), 1);
        EDGES.due("0 and 1", read("5 if 0 1 0"), 1);
        BlockLayout sixteen = fed(Programs.ofBlocks(16), "60 if 15 14 1");
        EDGES.due("15 of 16", sixteen.read(15), 1);
        Check.feed(sixteen, "60 go 16");
        EDGES.due("16 of 16", Check.outcome(() -> sixteen.read(15)), "IllegalArgumentException");
        BlockLayout one = fed(new BlockLayout(), "1 go 0");
        EDGES.due("0 of 1", one.read(0), 0);
        Check.feed(one, "1 go 1");
        EDGES.due("1 of 1", Check.outcome(() -> one.read(0)), "IllegalArgumentException");
        Check.feed(one, "1 if 0 0 1");
        EDGES.due("0 and 0 of 1", Check.outcome(() -> one.read(0)), "IllegalArgumentException");
    }
}
