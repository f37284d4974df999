import java.io.IOException;
import java.lang.reflect.Method;
import java.nio.file.Files;
import java.nio.file.Path;
import java.util.regex.Matcher;
import java.util.regex.Pattern;

/**
 * The three examples of the document's description, as they were written down here and as the document has them;
 * and the example of README.md.
 */
public final class ExamplesTest {
    private static final Check CHECK = new Check("ExamplesTest");
    private static final Pattern CALL = Pattern.compile("(\\w+)\\(([-\\d, ]*)\\) = (-?\\d+)");
    private static final Pattern README_CALL = Pattern.compile("x\\.(\\w+)\\(([-\\d, ]*)\\); +// (-?\\d+):");

    public static void main(String[] args) throws IOException {
        hotEdge();
        placesBehindAnAlignment();
        invertedBranch();
        asTheDocumentHasThem();
        exampleOfReadme();
        CHECK.finish();
    }

    /** Each example begins with clear, on a new object. */
    private static void asTheDocumentHasThem() {
        String description = Edges.section(Edges.documentText(), Edges.DESCRIPTION);
        Matcher call = CALL.matcher(description.substring(description.indexOf("Examples, each")));
        BlockLayout x = new BlockLayout();
        int examples = 0;
        int calls = 0;
        while (call.find()) {
            if (call.group(1).equals("clear")) {
                x = new BlockLayout();
                examples++;
            }
            calls++;
            CHECK.due(call.group(), answer(x, call.group(1), call.group(2)), Integer.valueOf(call.group(3)));
        }
        CHECK.due("examples of the document", examples, 3);
        CHECK.due("their calls", calls, 24);
    }

    /** The lines of README.md tell what each call answers. */
    private static void exampleOfReadme() throws IOException {
        String[] lines = Files.readString(Path.of("README.md")).split("\n");
        BlockLayout x = new BlockLayout();
        int calls = 0;
        for (String line : lines) {
            if (!line.startsWith("x.")) continue;
            Matcher call = README_CALL.matcher(line);
            CHECK.due("README.md tells an answer: " + line, call.lookingAt(), true);
            calls++;
            CHECK.due("README.md: " + line, answer(x, call.group(1), call.group(2)), Integer.valueOf(call.group(3)));
        }
        CHECK.due("README.md has an example", calls > 9, true);
    }

    private static Object answer(BlockLayout x, String name, String numbers) {
        String[] texts = numbers.isEmpty() ? new String[0] : numbers.split(", ");
        Object[] arguments = new Object[texts.length];
        for (int i = 0; i < texts.length; i++) arguments[i] = Integer.valueOf(texts[i]);
        try {
            for (Method method : BlockLayout.class.getMethods()) {
                if (method.getName().equals(name)) return method.invoke(x, arguments);
            }
        } catch (ReflectiveOperationException e) {
            return e.toString();
        }
        return "no such method";
    }

    private static void hotEdge() {
        BlockLayout x = new BlockLayout();
        CHECK.due("clear(3)", x.clear(3), 1);
        CHECK.due("setIf(0, 1, 2, 3)", x.setIf(0, 1, 2, 3), 2);
        CHECK.due("setGo(1, 0)", x.setGo(1, 0), 2);
        CHECK.due("run(10)", x.run(10), 6);
        CHECK.due("block(0, 5)", x.block(0, 5), 2);
        CHECK.due("end(0, 0)", x.end(0, 0), 3);
        CHECK.due("end(1, 0)", x.end(1, 0), 1);
        CHECK.due("cycles()", x.cycles(), 9);
        CHECK.due("arrange(1, -1)", x.arrange(1, -1), 9);
        CHECK.due("order(1)", x.order(1), 1);
    }

    private static void placesBehindAnAlignment() {
        BlockLayout x = new BlockLayout();
        CHECK.due("clear(2)", x.clear(2), 1);
        CHECK.due("setSize(0, 10)", x.setSize(0, 10), 0);
        CHECK.due("setGo(0, 1)", x.setGo(0, 1), 2);
        CHECK.due("end(0, 0)", x.end(0, 0), 0);
        CHECK.due("place(1, 1)", x.place(1, 1), 10);
        CHECK.due("setHot(1)", x.setHot(1), 2);
        CHECK.due("place(1, 1) behind the hot block", x.place(1, 1), 64);
        CHECK.due("end(0, 1)", x.end(0, 1), 2);
    }

    private static void invertedBranch() {
        BlockLayout x = new BlockLayout();
        CHECK.due("clear(2)", x.clear(2), 1);
        CHECK.due("setIf(0, 1, 0, 1)", x.setIf(0, 1, 0, 1), 2);
        CHECK.due("end(0, 0)", x.end(0, 0), 3);
        CHECK.due("invert(0)", x.invert(0), 0);
        CHECK.due("end(0, 0) inverted", x.end(0, 0), 2);
        CHECK.due("block(0, 2)", x.block(0, 2), 0);
    }
}
