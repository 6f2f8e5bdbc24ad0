import java.io.ByteArrayOutputStream;
import java.io.File;
import java.io.IOException;
import java.io.PrintStream;
import java.lang.reflect.Method;
import java.lang.reflect.Modifier;
import java.nio.file.Files;
import java.nio.file.Path;
import java.util.ArrayList;
import java.util.List;

/** What README.md shows: the example is the one that is run, and its answers are those there. */
public final class ReadmeTest {
    private static final String FENCE = "```";
    private static final Path README = Path.of("README.md");
    private static final Path TESTS = Path.of("src/test/java");

    public static void main(String[] args) throws IOException {
        String readme = Files.readString(README);
        textsOf(readme);
        exampleOf(readme);
        callsOf(readme);
        testsOf(readme);
        Probe.finish("ReadmeTest");
    }

    /** What stands between the fences of one kind, in order. */
    private static List<String> blocks(String readme, String kind) {
        List<String> blocks = new ArrayList<>();
        String start = "\n" + FENCE + kind + "\n";
        int from = readme.indexOf(start);
        while (from >= 0) {
            int end = readme.indexOf("\n" + FENCE + "\n", from + start.length());
            blocks.add(readme.substring(from + start.length(), end + 1));
            from = readme.indexOf(start, end);
        }
        return blocks;
    }

    private static void textsOf(String readme) {
        Probe.sentence("README: how a text is put");
        Probe probe = Probe.loaded("");
        Probe.same("put(3, 0x616263)", probe.put(3, 0x616263), "true");
        probe.retraces("", "0", "abc\n");
        List<String> texts = blocks(readme, "text");
        Probe.same("a mapping, a trace, and what the example prints", texts.size(), 3);
        Probe.isMapping(texts.get(0), "2");
        Probe.isTrace(texts.get(1), 1);
        Probe.loaded(texts.get(0)).retraces(texts.get(1), "1", "c: a message\n"
                + "\tat shop.Cart.add(Cart.java:22)\n\t... 2 more\nCaused by: java.lang.Error\n");
    }

    private static void exampleOf(String readme) throws IOException {
        Probe.sentence("README: an example");
        List<String> programs = blocks(readme, "java");
        Probe.same("one program", programs.size(), 1);
        Probe.same("the program of README.md", programs.get(0),
                Files.readString(TESTS.resolve("Example.java")));
        Probe.same("what it prints", outputOfExample(), blocks(readme, "text").get(2));
    }

    private static String outputOfExample() {
        PrintStream before = System.out;
        ByteArrayOutputStream bytes = new ByteArrayOutputStream();
        System.setOut(new PrintStream(bytes, true));
        try {
            Example.main(new String[0]);
        } finally {
            System.setOut(before);
        }
        return bytes.toString().replace(System.lineSeparator(), "\n");
    }

    private static void callsOf(String readme) {
        Probe.sentence("README: what each call answers, and what it throws");
        for (Method method : RetraceDesk.class.getDeclaredMethods()) {
            if (!Modifier.isPublic(method.getModifiers())) {
                continue;
            }
            String row = rowOf(readme, "| `" + method.getName() + "(");
            Probe.same(method.getName() + "() has a row", row.isEmpty(), false);
            for (Class<?> thrown : method.getExceptionTypes()) {
                boolean isNamed = row.contains(thrown.getSimpleName()) || row.contains("as `retrace()`");
                Probe.same("the row of " + method.getName() + "() has " + thrown.getSimpleName(),
                        isNamed, true);
            }
        }
    }

    private static String rowOf(String readme, String start) {
        for (String line : readme.split("\n")) {
            if (line.startsWith(start)) {
                return line;
            }
        }
        return "";
    }

    private static void testsOf(String readme) {
        Probe.sentence("README: how to run the tests");
        String section = readme.substring(readme.indexOf("## How to run the tests"));
        File[] files = TESTS.toFile().listFiles((dir, name) -> name.endsWith("Test.java"));
        for (File file : files) {
            String name = file.getName().replace(".java", "");
            Probe.same(name + " has a row", section.contains("`" + name + "`"), true);
        }
        Probe.same(".ci/run can be run", new File(".ci/run").canExecute(), true);
        Probe.same(".ci/run is named", section.contains(".ci/run"), true);
    }
}
