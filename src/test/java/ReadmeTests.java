import java.io.ByteArrayOutputStream;
import java.io.IOException;
import java.io.PrintStream;
import java.lang.reflect.Method;
import java.net.URL;
import java.net.URLClassLoader;
import java.nio.charset.StandardCharsets;
import java.nio.file.Files;
import java.nio.file.Path;
import java.util.ArrayList;
import java.util.List;
import java.util.Set;
import java.util.TreeSet;
import java.util.regex.Matcher;
import java.util.regex.Pattern;
import java.util.stream.Stream;
import javax.tools.JavaCompiler;
import javax.tools.ToolProvider;

/** What README.md says holds: its example, its table of calls, the files and commands that it names. */
public final class ReadmeTests {
    private static final Path README = Path.of("README.md");
    private static final Path DOCUMENT = Path.of("../shared/DOC.md");
    private static final Path MAIN = Path.of("src/main/java");
    private static final Path TESTS = Path.of("src/test/java");
    private static final Path SHARED_TESTS = Path.of("../shared/tests");

    private final String readme;

    private ReadmeTests(String readme) {
        this.readme = readme;
    }

    public static void main(String[] args) throws IOException, ReflectiveOperationException {
        ReadmeTests tests = new ReadmeTests(Files.readString(README));
        tests.example();
        tests.table();
        tests.files();
        tests.commands();
        tests.parts();
        Checks.end("the README says what holds");
    }

    private static void hold(boolean holds, String what) {
        if (!holds) {
            Checks.fail(what);
        }
    }

    private List<String> blocks(String language) {
        List<String> blocks = new ArrayList<>();
        Matcher matcher = Pattern.compile("(?s)\n```" + language + "\n(.*?)\n```\n").matcher(readme);
        while (matcher.find()) {
            blocks.add(matcher.group(1));
        }
        return blocks;
    }

    /** Compiled and run as a user would: the one Java block prints the one text block. */
    private void example() throws IOException, ReflectiveOperationException {
        Path directory = Files.createTempDirectory("readme");
        Path source = directory.resolve("Example.java");
        Files.writeString(source, blocks("java").get(0));
        JavaCompiler compiler = ToolProvider.getSystemJavaCompiler();
        int failed = compiler.run(null, null, null, "-Xlint:all", "-Werror", "-d", directory.toString(),
                "-cp", System.getProperty("java.class.path"), source.toString());
        hold(failed == 0, "the example doesn't compile");
        if (failed == 0) {
            String want = blocks("text").get(0);
            String got = output(directory).strip().replace("\r", "");
            hold(got.equals(want), "the example prints\n" + got + "\nbut is told to print\n" + want);
        }
        Files.deleteIfExists(directory.resolve("Example.class"));
        Files.delete(source);
        Files.delete(directory);
    }

    private static String output(Path directory) throws IOException, ReflectiveOperationException {
        PrintStream console = System.out;
        ByteArrayOutputStream printed = new ByteArrayOutputStream();
        try (URLClassLoader loader = new URLClassLoader(new URL[] {directory.toUri().toURL()})) {
            System.setOut(new PrintStream(printed, true, StandardCharsets.UTF_8));
            Method main = loader.loadClass("Example").getMethod("main", String[].class);
            main.invoke(null, (Object) new String[0]);
        } finally {
            System.setOut(console);
        }
        return printed.toString(StandardCharsets.UTF_8);
    }

    /** The calls of the table are the document's, in its order, with its names of the arguments. */
    private void table() throws IOException {
        List<String> want = new ArrayList<>(List.of("new CableKeeper()"));
        Matcher heads = Pattern.compile("(?m)^    public \\w+ (\\w+)\\((.*)\\)(?: throws .*)?;$")
                .matcher(Files.readString(DOCUMENT));
        while (heads.find()) {
            want.add(heads.group(1) + "(" + heads.group(2).replaceAll("\\w+ (\\w+)", "$1") + ")");
        }
        List<String> got = new ArrayList<>();
        Matcher rows = Pattern.compile("(?m)^\\| `(.*?)` \\|").matcher(readme);
        while (rows.find()) {
            got.add(rows.group(1));
        }
        hold(got.equals(want), "the table has the calls " + got + ", due are " + want);
    }

    private static Set<String> names(Path directory) throws IOException {
        Set<String> names = new TreeSet<>();
        try (Stream<Path> files = Files.list(directory)) {
            files.forEach(file -> names.add(file.getFileName().toString()));
        }
        return names;
    }

    private void files() throws IOException {
        Set<String> there = names(TESTS);
        for (String each : there) {
            hold(readme.contains("`" + each + "`"), each + " isn't named");
        }
        Matcher named = Pattern.compile("`(?:\\S*/)?(\\w+\\.java)`").matcher(readme);
        while (named.find()) {
            hold(there.contains(named.group(1)) || Files.exists(MAIN.resolve(named.group(1))),
                    named.group(1) + " is named, but isn't there");
        }
        Matcher paths = Pattern.compile("`((?:\\.\\./|src/)\\S*|\\w+\\.md)`").matcher(readme);
        while (paths.find()) {
            hold(Files.exists(Path.of(paths.group(1))), paths.group(1) + " is named, but isn't there");
        }
    }

    /** Each line of the shell blocks is .ci/run, a compilation of files that are there, or a test among these. */
    private void commands() throws IOException {
        Set<String> tests = names(TESTS);
        tests.addAll(names(SHARED_TESTS));
        String lines = String.join("\n", blocks("sh"));
        hold(lines.contains(".ci/run") && Files.isExecutable(Path.of(".ci/run")), ".ci/run can't be run as told");
        for (String line : lines.split("\n")) {
            String[] words = line.split(" ");
            if (words[0].equals("javac")) {
                for (int i = 3; i < words.length; i++) {
                    hold(Files.exists(Path.of(words[i].replace("*.java", ""))), words[i] + " isn't there");
                }
            } else if (words[0].equals("java")) {
                hold(tests.contains(words[3] + ".java"), words[3] + " is no test");
            } else {
                hold(line.equals(".ci/run"), "not known: " + line);
            }
        }
    }

    /** The classes inside that the last part tells of are there. */
    private void parts() {
        Set<String> inside = new TreeSet<>();
        for (Class<?> each : CableKeeper.class.getDeclaredClasses()) {
            inside.add(each.getSimpleName());
        }
        String last = readme.substring(readme.indexOf("## How it is made"));
        Matcher named = Pattern.compile("`([A-Z][a-z]+)`").matcher(last);
        while (named.find()) {
            hold(inside.contains(named.group(1)), named.group(1) + " is no class inside");
        }
    }
}
