import java.io.IOException;
import java.nio.file.DirectoryStream;
import java.nio.file.Files;
import java.nio.file.Path;
import java.util.HashMap;
import java.util.Map;
import java.util.Set;
import java.util.TreeSet;
import java.util.regex.Matcher;
import java.util.regex.Pattern;

/** Every sentence of the description and of the promises that names a boundary is held by a test of the Edges. */
public final class SentencesTest {
    private static final Check CHECK = new Check("SentencesTest");
    private static final String TEXT = "\"((?:[^\"\\\\]|\\\\.)*)\"";
    private static final Pattern NAMED = Pattern.compile("String (\\w+) = " + TEXT + ";");
    private static final Pattern HOLDS = Pattern.compile("holds\\((\\d+), (?:" + TEXT + "|(\\w+))\\)");

    /** What names no boundary: titles of the description, and what the ordinary tests hold. */
    private static final Set<String> WITHOUT_BOUNDARY = Set.of(
        "Program.", "Profile.", "Loop heads.", "Layout.", "Ends in the layout.", "Addresses.", "Cycles.", "Arranging.",
        "Exceptions.", "Examples, each with a new object: calls and their results.",
        "The constructor and the methods follow, a promise each: the signature, then what it does.",
        "Sets the size of a block.", "Lets a block go to one block.", "Lets a block go to one of two blocks.",
        "Lets a block stop.", "Returns a property of a block.", "Returns the property.", "Returns the block.",
        "Sets the alignment.", "Sets the loop limit.", "Makes a layout by arranging.", "Exchanges two blocks in the order.",
        "Sets the number of hot blocks.", "Returns where a block stands.", "Returns the number.",
        "Returns what the end of a block needs.", "Returns a number about the layout.", "Returns the number of cycles.",
        "Returns the quotient.", "Returns the alignment.", "block: the block", "blocks: the number of blocks",
        "size: the size", "to: the block to which it goes", "first: the first block", "second: the second block",
        "pattern: the pattern", "alignment: the alignment", "limit: the loop limit", "coldLimit: the cold limit",
        "j: a position", "count: the number of hot blocks", "character: the character");

    public static void main(String[] args) throws IOException {
        Set<String> held = held();
        String document = Files.readString(Path.of("../shared/DOC.md"));
        for (String part : document.split("(?m)^## ")) {
            Matcher promise = Pattern.compile("Promise (\\d+):").matcher(part);
            if (promise.lookingAt()) {
                look(part, promise.group(1), held);
            } else if (part.startsWith("Description")) {
                look(part, String.valueOf(Edges.DESCRIPTION), held);
            }
        }
        CHECK.finish();
    }

    /** The promises and sentences that tests give to holds, be it as a text or by the name of one. */
    private static Set<String> held() throws IOException {
        Set<String> held = new TreeSet<>();
        try (DirectoryStream<Path> files = Files.newDirectoryStream(Path.of("src/test/java"), "EdgesOf*.java")) {
            for (Path file : files) {
                String joined = Files.readString(file).replaceAll("\"\\s*\\+\\s*\"", "");
                Map<String, String> texts = new HashMap<>();
                Matcher named = NAMED.matcher(joined);
                while (named.find()) texts.put(named.group(1), named.group(2));
                Matcher holds = HOLDS.matcher(joined);
                while (holds.find()) {
                    String text = holds.group(2) != null ? holds.group(2) : texts.getOrDefault(holds.group(3), "");
                    held.add(holds.group(1) + ": " + text.replace("\\\"", "\""));
                }
            }
        }
        return held;
    }

    private static void look(String part, String promise, Set<String> held) {
        for (String paragraph : part.substring(part.indexOf('\n')).split("\\n\\s*\\n|\\n- ")) {
            for (String sentence : Edges.plain(paragraph).trim().split("(?<=\\.) (?=[A-Z])")) {
                String words = sentence.replaceFirst("^- ", "");
                if (namesABoundary(words)) {
                    String told = promise + ": " + words;
                    CHECK.due("a test holds '" + told + "'", held.contains(told), true);
                }
            }
        }
    }

    private static boolean namesABoundary(String words) {
        boolean title = words.isEmpty() || words.startsWith("----");
        boolean signature = words.matches("(int|double) \\w+\\(.*\\).*") || words.equals("BlockLayout()");
        boolean example = words.matches(".*: clear\\(\\d\\) = 1;.*");
        return !title && !signature && !example && !WITHOUT_BOUNDARY.contains(words);
    }
}
