import java.io.IOException;
import java.io.InputStream;
import java.lang.reflect.Constructor;
import java.lang.reflect.Executable;
import java.lang.reflect.Field;
import java.lang.reflect.Method;
import java.lang.reflect.Modifier;
import java.nio.charset.StandardCharsets;
import java.nio.file.Files;
import java.nio.file.Path;
import java.util.List;
import java.util.Set;
import java.util.TreeSet;
import java.util.regex.Matcher;
import java.util.regex.Pattern;

/** The public face of the document, and those rules of LANGUAGE.md that can be seen from outside. */
public final class FaceTest {
    private static final Check CHECK = new Check("FaceTest");
    private static final Path SOURCE = Path.of("src/main/java/BlockLayout.java");
    private static final String I = "IndexOutOfBoundsException";
    private static final String A = "IllegalArgumentException";
    private static final String R = "ArithmeticException";
    private static final String U = "UnsupportedOperationException";

    public static void main(String[] args) throws IOException {
        face();
        asTheDocumentHasIt();
        nothingElse();
        names();
        source();
        shortMethods();
        library();
        CHECK.finish();
    }

    private static void face() {
        Set<String> due = new TreeSet<>(List.of(
            "int clear(int) " + A, "int setSize(int,int) " + I + " " + A, "int setGo(int,int) " + I,
            "int setIf(int,int,int,int) " + I + " " + A, "int setStop(int) " + I, "int invert(int) " + I + " " + U,
            "int block(int,int) " + I + " " + A, "int run(int) " + A + " " + R, "int runLayout(int) " + A + " " + R,
            "int pathLength()", "int pathBlock(int) " + I, "int clearProfile()", "int setAlignment(int) " + A,
            "int setLoopLimit(int) " + A, "int arrange(int,int) " + A + " " + U, "int exchange(int,int) " + I + " " + A,
            "int setHot(int) " + A, "int order(int) " + I, "int place(int,int) " + I + " " + A,
            "int end(int,int) " + I + " " + A, "int layout(int) " + A, "int cycles()", "double meanCycles() " + R,
            "int bestAlignment()", "int feed(char) IllegalStateException", "int read(int) " + I + " " + A,
            "int undo() NoSuchElementException"));
        Set<String> got = new TreeSet<>();
        for (Method method : BlockLayout.class.getDeclaredMethods()) {
            if (!Modifier.isPrivate(method.getModifiers())) got.add(told(method));
        }
        CHECK.due("the methods", got, due);
        CHECK.due("the class", BlockLayout.class.getModifiers(), Modifier.PUBLIC | Modifier.FINAL);
    }

    /** Each line of the document's face stands in the source, with the names of its parameters, and no other. */
    private static void asTheDocumentHasIt() throws IOException {
        String document = Files.readString(Path.of("../shared/DOC.md"));
        int from = document.indexOf("```java");
        String[] lines = document.substring(from, document.indexOf("```", from + 7)).split("\n");
        Set<String> due = new TreeSet<>();
        for (String line : lines) {
            String words = line.trim();
            if (words.startsWith("public ")) due.add(words.replace(";", " {"));
        }
        Set<String> got = new TreeSet<>();
        String source = Files.readString(SOURCE).replaceAll("\\s+", " ");
        Matcher line = Pattern.compile("public [^{]*\\{").matcher(source);
        while (line.find()) got.add(line.group());
        CHECK.due("the lines of the face", got, due);
        CHECK.due("their number: the class, its constructor and 27 methods", got.size(), 29);
    }

    private static String told(Method method) {
        StringBuilder told = new StringBuilder(method.getReturnType().getSimpleName()).append(' ');
        told.append(method.getName()).append('(');
        for (Class<?> type : method.getParameterTypes()) {
            told.append(told.charAt(told.length() - 1) == '(' ? "" : ",").append(type.getSimpleName());
        }
        told.append(')');
        for (Class<?> type : method.getExceptionTypes()) told.append(' ').append(type.getSimpleName());
        return told.toString();
    }

    private static void nothingElse() {
        Constructor<?>[] constructors = BlockLayout.class.getDeclaredConstructors();
        CHECK.due("the number of constructors", constructors.length, 1);
        CHECK.due("a public constructor", constructors[0].getModifiers(), Modifier.PUBLIC);
        for (Field field : BlockLayout.class.getDeclaredFields()) {
            CHECK.due("private " + field.getName(), Modifier.isPrivate(field.getModifiers()), true);
            if (Modifier.isStatic(field.getModifiers())) {
                CHECK.due("final " + field.getName(), Modifier.isFinal(field.getModifiers()), true);
            }
        }
        for (Class<?> inside : BlockLayout.class.getDeclaredClasses()) {
            boolean hidden = (inside.getModifiers() & (Modifier.PUBLIC | Modifier.PROTECTED)) == 0;
            CHECK.due("hidden and static " + inside, hidden && Modifier.isStatic(inside.getModifiers()), true);
        }
        CHECK.due("at most twelve classes", BlockLayout.class.getDeclaredClasses().length < 12, true);
    }

    private static void names() {
        Set<String> face = new TreeSet<>();
        for (Method method : BlockLayout.class.getMethods()) face.add(method.getName());
        for (Class<?> type : allClasses()) {
            for (Method method : type.getDeclaredMethods()) {
                few(method);
                boolean ofFace = type == BlockLayout.class && Modifier.isPublic(method.getModifiers());
                CHECK.due("a name of its own: " + method, ofFace || !face.contains(method.getName()), true);
            }
            CHECK.due("at most twenty fields: " + type, variables(type) <= 20, true);
        }
    }

    private static void few(Executable method) {
        CHECK.due("at most seven parameters: " + method, method.getParameterCount() <= 7, true);
    }

    private static List<Class<?>> allClasses() {
        List<Class<?>> all = new java.util.ArrayList<>(List.of(BlockLayout.class.getDeclaredClasses()));
        all.add(BlockLayout.class);
        return all;
    }

    private static int variables(Class<?> type) {
        int count = 0;
        for (Field field : type.getDeclaredFields()) count += Modifier.isStatic(field.getModifiers()) ? 0 : 1;
        return count;
    }

    private static void source() throws IOException {
        List<String> lines = Files.readAllLines(SOURCE);
        for (String line : lines) {
            boolean foreign = line.startsWith("package") || line.startsWith("import") && !line.equals("import java.util.NoSuchElementException;");
            CHECK.due("no package and no other import: " + line, foreign, false);
            for (String word : List.of("->", "::", "catch", "finally", "synchronized", "assert ", "Exact(", "System.", "Random")) {
                CHECK.due("no " + word + " in " + line, line.contains(word), false);
            }
            CHECK.due("plain signs in " + line, line.chars().allMatch(c -> c >= 32 && c < 127), true);
        }
    }

    /** What begins at an indent of one or two steps, classes apart, ends within sixty lines. */
    private static void shortMethods() throws IOException {
        List<String> lines = Files.readAllLines(SOURCE);
        for (int i = 0; i < lines.size(); i++) {
            String indent = lines.get(i).replaceAll("\\S.*", "");
            boolean member = indent.length() == 4 || indent.length() == 8;
            if (!member || !lines.get(i).endsWith("{") || lines.get(i).contains(" class ")) continue;
            int end = i;
            while (end < lines.size() && !lines.get(end).equals(indent + "}")) end++;
            CHECK.due("at most sixty lines: " + lines.get(i), end - i <= 60, true);
        }
    }

    /** The compiled classes name nothing of the library but what LANGUAGE.md lists. */
    private static void library() throws IOException {
        Set<String> listed = Set.of("Object", "String", "Math", "IllegalStateException", "IllegalArgumentException",
            "IndexOutOfBoundsException", "ArithmeticException", "UnsupportedOperationException", "NoSuchElementException");
        for (Class<?> type : allClasses()) {
            try (InputStream in = type.getResourceAsStream(type.getName() + ".class")) {
                String bytes = new String(in.readAllBytes(), StandardCharsets.ISO_8859_1);
                Matcher named = Pattern.compile("javax?/[\\w/$]*?(\\w+)(?![\\w/$])").matcher(bytes);
                while (named.find()) {
                    CHECK.due(named.group() + " is listed", listed.contains(named.group(1)), true);
                }
            }
        }
    }
}
