import java.io.ByteArrayOutputStream;
import java.io.PrintStream;
import java.net.URL;
import java.net.URLClassLoader;
import java.nio.charset.StandardCharsets;
import java.nio.file.Files;
import java.nio.file.Path;
import java.util.Comparator;
import java.util.List;
import java.util.stream.Collectors;
import java.util.stream.Stream;
import javax.tools.ToolProvider;

/** README.md's example runs as it says there, and the page names what a developer needs and every test. */
public final class ReadmeTest {
    private static final Path TESTS = Path.of("src/test/java");

    private ReadmeTest() {
    }

    public static void main(String[] args) throws Exception {
        String page = Files.readString(Path.of("README.md"));
        String example = block(page, "java");
        String printed = run(example);
        Checks.due("the example prints", block(page, "text"), () -> printed);
        for (String call : List.of(".feed(", ".teach()", ".errorAt()", ".height(", ".count(", ".dip(")) {
            Checks.due("the example calls " + call, true, () -> example.contains(call));
        }
        for (String word : List.of("JDK 17", "\n    .ci/run\n", "src/main/java/MarbledPaper.java")) {
            Checks.due("the page says " + word.strip(), true, () -> page.contains(word));
        }
        for (String test : tests()) {
            Checks.due("the page names " + test, true, () -> page.contains("- `" + test + "`: "));
        }
        Checks.due("the one command is there", true, () -> Files.isExecutable(Path.of(".ci/run")));
        Checks.close("ReadmeTest");
    }

    /** What stands in the page's first block of this kind. */
    private static String block(String page, String kind) {
        String fence = "```" + kind + "\n";
        int from = page.indexOf(fence);
        int to = page.indexOf("```", from + fence.length());
        return from < 0 || to < 0 ? "" : page.substring(from + fence.length(), to);
    }

    private static List<String> tests() throws Exception {
        try (Stream<Path> files = Files.list(TESTS)) {
            return files.map(file -> file.getFileName().toString()).filter(name -> name.endsWith("Test.java"))
                .map(name -> name.replace(".java", "")).sorted().collect(Collectors.toList());
        }
    }

    /** Compiles the example with the class, in a directory of its own, and tells what it prints. */
    private static String run(String example) throws Exception {
        Path directory = Files.createTempDirectory("readme");
        try {
            Path file = Files.writeString(directory.resolve("Example.java"), example);
            int wrong = ToolProvider.getSystemJavaCompiler().run(null, null, null, "-d", directory.toString(),
                "src/main/java/MarbledPaper.java", file.toString());
            return wrong == 0 ? printed(directory) : "nothing: it does not compile";
        } finally {
            remove(directory);
        }
    }

    private static String printed(Path directory) throws Exception {
        PrintStream console = System.out;
        ByteArrayOutputStream bytes = new ByteArrayOutputStream();
        ClassLoader platform = ClassLoader.getPlatformClassLoader();
        try (URLClassLoader loader = new URLClassLoader(new URL[] {directory.toUri().toURL()}, platform)) {
            System.setOut(new PrintStream(bytes, true, StandardCharsets.UTF_8));
            loader.loadClass("Example").getMethod("main", String[].class).invoke(null, (Object) new String[0]);
        } finally {
            System.setOut(console);
        }
        return bytes.toString(StandardCharsets.UTF_8).replace(System.lineSeparator(), "\n");
    }

    private static void remove(Path directory) throws Exception {
        try (Stream<Path> files = Files.walk(directory)) {
            for (Path file : files.sorted(Comparator.reverseOrder()).collect(Collectors.toList())) {
                Files.delete(file);
            }
        }
    }
}
