import java.io.File;
import java.io.IOException;
import java.io.UncheckedIOException;
import java.lang.reflect.Method;
import java.lang.reflect.Modifier;
import java.net.URL;
import java.net.URLClassLoader;
import java.nio.file.Files;
import java.nio.file.Path;
import java.util.ArrayList;
import java.util.Arrays;
import java.util.List;
import java.util.TreeSet;
import java.util.function.Supplier;
import java.util.regex.Matcher;
import java.util.regex.Pattern;
import javax.tools.JavaCompiler;
import javax.tools.ToolProvider;

/** README.md says how to use the class and how to run its tests, and what it says holds. */
public final class ReadmeTest {
    private static final Check C = new Check();
    private static final Path README = Path.of("README.md");
    private static final Pattern ANSWERED = Pattern.compile("(x\\.\\w+\\(.*\\)); *// (true|false|-?\\d\\w*)\\b.*");
    private static final String BEFORE = "public final class Example implements java.util.function.Supplier<Object[]> {\n"
            + "public Object[] get() {\njava.util.List<Object> answers = new java.util.ArrayList<>();\n";
    private static final String BEHIND = "return answers.toArray();\n}\n}\n";
    private static final Pattern TEST_ROW = Pattern.compile("\\| (\\w+Test) \\|.*");

    public static void main(String[] args) {
        C.holds("Numbers behind // are what the call answers", ReadmeTest::examples);
        C.holds("each call of the face is named", ReadmeTest::calls);
        C.holds("each test stands in the table, and nothing else", ReadmeTest::table);
        C.finish();
    }

    private static List<String> readme() {
        try {
            return Files.readAllLines(README);
        } catch (IOException e) {
            throw new UncheckedIOException(e);
        }
    }

    private static List<List<String>> blocks() {
        List<List<String>> blocks = new ArrayList<>();
        List<String> block = null;
        for (String line : readme()) {
            if (line.equals("```java")) {
                block = new ArrayList<>();
            } else if (line.equals("```")) {
                blocks.add(block);
                block = null;
            } else if (block != null) {
                block.add(line);
            }
        }
        return blocks;
    }

    private static void examples() {
        List<List<String>> blocks = blocks();
        C.due("examples are there", blocks.isEmpty(), false);
        for (List<String> block : blocks) {
            example(block);
        }
    }

    /** Compiles an example so that it gives its answers back, and holds them to those behind the slashes. */
    private static void example(List<String> block) {
        List<String> calls = new ArrayList<>();
        List<Long> due = new ArrayList<>();
        StringBuilder code = new StringBuilder(BEFORE);
        for (String line : block) {
            Matcher answered = ANSWERED.matcher(line);
            if (answered.matches()) {
                calls.add(answered.group(1));
                due.add(number(answered.group(2)));
                code.append("answers.add(").append(answered.group(1)).append(");\n");
            } else {
                code.append(line).append('\n');
            }
        }
        code.append(BEHIND);
        Object[] answers = answersOf(code.toString());
        C.due("answers told", answers.length > 0, true);
        for (int i = 0; i < answers.length; i++) {
            C.due(calls.get(i), number(String.valueOf(answers[i])), due.get(i));
        }
    }

    private static long number(String text) {
        if (text.equals("true") || text.equals("false")) {
            return text.equals("true") ? 1 : 0;
        }
        return text.startsWith("0x") ? Long.parseUnsignedLong(text.substring(2), 16) : Long.parseLong(text);
    }

    private static Object[] answersOf(String code) {
        try {
            Path work = Files.createTempDirectory("readme");
            Path file = work.resolve("Example.java");
            try {
                Files.writeString(file, code);
                return compiledAnswers(work, file);
            } finally {
                for (File left : work.toFile().listFiles()) {
                    left.delete();
                }
                Files.delete(work);
            }
        } catch (IOException | ReflectiveOperationException e) {
            throw new IllegalStateException(e);
        }
    }

    private static Object[] compiledAnswers(Path work, Path file) throws IOException, ReflectiveOperationException {
        JavaCompiler compiler = ToolProvider.getSystemJavaCompiler();
        String classes = System.getProperty("java.class.path");
        int exit = compiler.run(null, null, null, "-cp", classes, "-d", work.toString(), file.toString());
        C.due("javac", exit, 0);
        try (URLClassLoader loader = new URLClassLoader(new URL[] {work.toUri().toURL()})) {
            Object example = loader.loadClass("Example").getDeclaredConstructor().newInstance();
            return (Object[]) ((Supplier<?>) example).get();
        }
    }

    private static void calls() {
        String text = String.join("\n", readme());
        for (Method method : SealedModule.class.getDeclaredMethods()) {
            if (Modifier.isPublic(method.getModifiers())) {
                C.due(method.getName(), Pattern.compile("\\b" + method.getName() + "\\(").matcher(text).find(), true);
            }
        }
    }

    private static void table() {
        TreeSet<String> told = new TreeSet<>();
        for (String line : readme()) {
            Matcher row = TEST_ROW.matcher(line);
            if (row.matches()) {
                told.add(row.group(1));
            }
        }
        TreeSet<String> there = new TreeSet<>();
        String[] files = Path.of("src", "test", "java").toFile().list();
        for (String file : files == null ? new String[0] : files) {
            if (file.endsWith("Test.java")) {
                there.add(file.substring(0, file.length() - 5));
            }
        }
        C.due("tests " + there + ", told " + Arrays.toString(told.toArray()), told.equals(there), true);
    }
}
