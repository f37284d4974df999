import java.io.IOException;
import java.nio.file.DirectoryStream;
import java.nio.file.Files;
import java.nio.file.Path;
import java.util.HashMap;
import java.util.Map;
import java.util.Set;
import java.util.TreeSet;
import java.util.regex.Matcher;
import java.util.regex.Pattern;

/** Every sentence of the document that asks for something is held by a test that uses Edges. */
public final class SentencesTest {
    private static final Check CHECK = new Check("SentencesTest");
    private static final String TEXT = "\"((?:[^\"\\\\]|\\\\.)*)\"";
    private static final Pattern NAMED = Pattern.compile("String (\\w+) = " + TEXT + ";");
    private static final Pattern HOLDS = Pattern.compile("holds\\((\\d+), (?:" + TEXT + "|(\\w+))\\)");

    /** What is no sentence about the class, but says what follows in the document, or sums it up. */
    private static final Set<String> TITLES = Set.of(
        "Program.", "Profile.", "Loop heads.", "Layout.", "Ends in the layout.", "Addresses.", "Cycles.", "Arranging.",
        "Exceptions.", "Examples, each with a new object: calls and their results.",
        "The constructor and the methods follow, a promise each: the signature, then what it does.",
        "A planner of the order in which the blocks of a program stand in memory: weights of edges from executions, chains "
            + "that are joined by weights or by gains, cold blocks in a section of their own, inverted branches, short and "
            + "long jumps, alignment of loop heads, and a machine that executes the layout.");

    public static void main(String[] args) throws IOException {
        Set<String> held = held();
        String document = Files.readString(Path.of("../shared/DOC.md"));
        for (String part : document.split("(?m)^## ")) {
            Matcher promise = Pattern.compile("Promise (\\d+):").matcher(part);
            if (promise.lookingAt()) {
                look(part, promise.group(1), held);
            } else if (part.startsWith("Description") || part.startsWith("What it is")) {
                look(part, String.valueOf(Edges.DESCRIPTION), held);
            }
        }
        CHECK.finish();
    }

    /** The promises and sentences that tests give to holds, be it as a text or by the name of one. */
    private static Set<String> held() throws IOException {
        Set<String> held = new TreeSet<>();
        try (DirectoryStream<Path> files = Files.newDirectoryStream(Path.of("src/test/java"), "*Test.java")) {
            for (Path file : files) {
                String joined = Files.readString(file).replaceAll("\"\\s*\\+\\s*\"", "");
                Map<String, String> texts = new HashMap<>();
                Matcher named = NAMED.matcher(joined);
                while (named.find()) texts.put(named.group(1), named.group(2));
                Matcher holds = HOLDS.matcher(joined);
                while (holds.find()) {
                    String text = holds.group(2) != null ? holds.group(2) : texts.getOrDefault(holds.group(3), "");
                    held.add(holds.group(1) + ": " + text.replace("\\\"", "\""));
                }
            }
        }
        return held;
    }

    private static void look(String part, String promise, Set<String> held) {
        for (String paragraph : part.substring(part.indexOf('\n')).split("\\n\\s*\\n|\\n- ")) {
            for (String sentence : Edges.plain(paragraph).trim().split("(?<=\\.) (?=[A-Z])")) {
                String words = sentence.replaceFirst("^- ", "");
                if (asksForSomething(words)) {
                    String told = promise + ": " + words;
                    CHECK.due("a test holds '" + told + "'", held.contains(told), true);
                }
            }
        }
    }

    /** Signatures are held by FaceTest, and examples by ExamplesTest; both read the document themselves. */
    private static boolean asksForSomething(String words) {
        boolean title = words.isEmpty() || words.startsWith("----") || TITLES.contains(words);
        boolean signature = words.matches("(int|double) \\w+\\(.*\\).*") || words.equals("BlockLayout()");
        boolean example = words.matches(".*: clear\\(\\d\\) = 1;.*");
        return !title && !signature && !example;
    }
}
