import java.io.IOException;
import java.nio.file.Files;
import java.nio.file.Path;

/**
 * Checks at the boundaries that the document names. A test tells the sentence that it holds, word for word, and
 * the sentence must stand in the document. Each check makes its objects anew, so that none gets near the 512
 * calls for which it is promised to answer.
 */
final class Edges {
    /** Makes the same state at every call. */
    interface Maker {
        BlockLayout make();
    }

    interface Call {
        Object on(BlockLayout x);
    }

    interface NumberCall {
        Object on(BlockLayout x, int number);
    }

    static final int DESCRIPTION = 0;
    static final int LEAST = Integer.MIN_VALUE;
    static final int MOST = Integer.MAX_VALUE;
    static final Class<?> INDEX = IndexOutOfBoundsException.class;
    static final Class<?> ARGUMENT = IllegalArgumentException.class;
    static final Class<?> ARITHMETIC = ArithmeticException.class;
    static final Class<?> UNSUPPORTED = UnsupportedOperationException.class;
    static final Class<?> FULL = IllegalStateException.class;
    static final Class<?> NO_ELEMENT = java.util.NoSuchElementException.class;

    private static final Path DOCUMENT = Path.of("../shared/DOC.md");
    private static final int SHOWN_OF_PATH = 60;
    private static final Call[] VIEWS = {
        Check::seen, Edges::afterRun, Edges::afterRunLayout, Edges::afterUndo, Edges::afterRead, Edges::afterFeed,
    };

    private final Check check;
    private final String document;
    private String sentence = "";
    private int checksOfSentence = 1;

    Edges(String test) {
        check = new Check(test);
        document = documentText();
    }

    /** The document with single spaces, without the signs that mark code; empty where it is not at hand. */
    static String documentText() {
        try {
            return Files.exists(DOCUMENT) ? plain(Files.readString(DOCUMENT)) : "";
        } catch (IOException e) {
            throw new IllegalStateException("the document can't be read", e);
        }
    }

    static String plain(String text) {
        return text.replace("`", "").replaceAll("\\s+", " ");
    }

    /** The part of the document for a promise, or, as the description, all that stands before the promises. */
    static String section(String document, int promise) {
        int from = promise == DESCRIPTION ? 0 : document.indexOf("## Promise " + promise + ":");
        int to = from < 0 ? -1 : document.indexOf(promise == DESCRIPTION ? " ## Promise 1:" : " ## ", from);
        return from < 0 ? "" : document.substring(from, to < 0 ? document.length() : to);
    }

    /** The sentence that the checks behind this call hold. */
    void holds(int promise, String words) {
        checkedAtAll();
        sentence = words;
        checksOfSentence = 0;
        if (!document.isEmpty()) {
            check.due("promise " + promise + " has '" + words + "'", section(document, promise).contains(words), true);
        }
    }

    /** A sentence that is told, but behind which nothing is checked, is not held. */
    private void checkedAtAll() {
        if (checksOfSentence == 0) check.due("checks of '" + sentence + "'", 0, "at least one");
    }

    void due(String what, Object got, Object want) {
        checksOfSentence++;
        check.due("'" + sentence + "': " + what, got, want);
    }

    /** On an object of its own, the call answers so. */
    void answers(Maker maker, String what, Call call, Object want) {
        due(what, Check.outcome(() -> call.on(maker.make())), want);
    }

    /** The call throws exactly this exception, and its object goes on as one that was not called. */
    void refused(Maker maker, Class<?> exception, String what, Call call) {
        refused(maker, maker, exception, what, call);
    }

    /** The same where the document asks for another state behind the call. */
    void refused(Maker maker, Maker afterwards, Class<?> exception, String what, Call call) {
        for (Call view : VIEWS) {
            BlockLayout x = maker.make();
            due(what, Check.outcome(() -> call.on(x)), exception.getSimpleName());
            due("the state after " + what, view.on(x), view.on(afterwards.make()));
        }
    }

    /** What the call answers and leaves is, in every view, as in a state that was made otherwise. */
    void leaves(Maker maker, String what, Call call, Object want, Maker afterwards) {
        for (Call view : VIEWS) {
            BlockLayout x = maker.make();
            due(what, Check.outcome(() -> call.on(x)), want);
            due("the state after " + what, view.on(x), view.on(afterwards.make()));
        }
    }

    /** From the least number to the greatest the call is not refused; outside it is. */
    void range(Maker maker, String what, int least, int greatest, Class<?> exception, NumberCall call) {
        for (int number : new int[] {least, Math.min(least + 1, greatest), Math.max(greatest - 1, least), greatest}) {
            Object got = Check.outcome(() -> call.on(maker.make(), number));
            due(what + " with " + number + " is answered", got instanceof Number, true);
        }
        for (int number : new int[] {least - 1, greatest + 1, LEAST, MOST}) {
            refused(maker, exception, what + " with " + number, x -> call.on(x, number));
        }
    }

    /** Blocks, or positions, from 0 to below the number are there; others are not. */
    void indices(Maker maker, String what, int number, NumberCall call) {
        range(maker, what, 0, number - 1, INDEX, call);
        refused(maker, INDEX, what + " with " + (number + 16), x -> call.on(x, number + 16));
    }

    void finish() {
        checkedAtAll();
        check.finish();
    }

    // ---- views: what an object answers, also to calls that change it

    private static Object afterRun(BlockLayout x) {
        StringBuilder told = new StringBuilder();
        told.append(Check.outcome(() -> x.run(500))).append(' ').append(shortPath(x));
        for (int b = 0; b < 16 && Check.hasBlock(x, b); b++) {
            for (int what = 4; what <= 6; what++) told.append(' ').append(x.block(b, what));
        }
        return told.append(' ').append(Check.outcome(x::meanCycles)).append(' ').append(x.clearProfile()).toString();
    }

    private static Object afterRunLayout(BlockLayout x) {
        return Check.outcome(() -> x.runLayout(500)) + " " + shortPath(x);
    }

    /** The beginning of the path and its end, for a path can be as long as 500. */
    static String shortPath(BlockLayout x) {
        StringBuilder told = new StringBuilder("path");
        int length = x.pathLength();
        for (int i = 0; i < Math.min(length, SHOWN_OF_PATH); i++) told.append(' ').append(x.pathBlock(i));
        if (length > 0) told.append(" to ").append(x.pathBlock(length - 1));
        return told.append(", ").append(length).append(" long").toString();
    }

    private static Object afterUndo(BlockLayout x) {
        StringBuilder told = new StringBuilder();
        for (int i = 0; i <= 10; i++) {
            told.append(Check.outcome(x::undo)).append(": ").append(Check.order(x)).append(", ");
            told.append(x.layout(2)).append(' ').append(x.layout(7)).append('\n');
        }
        return told.toString();
    }

    private static Object afterRead(BlockLayout x) {
        StringBuilder told = new StringBuilder();
        told.append(Check.outcome(() -> x.read(0)));
        for (int what = 0; what <= 7; what++) told.append(' ').append(x.block(0, what));
        return told.append(' ').append(x.feed('1')).append(' ').append(x.read(0)).toString();
    }

    private static Object afterFeed(BlockLayout x) {
        return Check.outcome(() -> x.feed('#')) + " " + Check.outcome(() -> x.read(0));
    }
}
