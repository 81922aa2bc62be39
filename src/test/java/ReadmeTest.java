import java.io.IOException;
import java.lang.reflect.Method;
import java.lang.reflect.Modifier;
import java.nio.file.Files;
import java.nio.file.Path;
import java.util.ArrayList;
import java.util.Comparator;
import java.util.List;
import java.util.stream.Stream;

/** What README.md says: its commands, tried in a copy of the project, its example, and the names it must tell. */
public final class ReadmeTest {
    // Tried by whoever runs this test; from here it would run itself without end.
    private static final String ALL_TESTS = ".ci/run";

    public static void main(String[] args) throws IOException, InterruptedException {
        List<String> readme = Files.readAllLines(Path.of("README.md"));
        namesEveryCall(readme);
        namesEveryTest(readme);
        tellsHowToRunAllTests(readme);
        Path copy = Files.createTempDirectory("readme");
        try {
            copySources(copy);
            commandsWork(readme, copy);
        } finally {
            remove(copy);
        }
        Check.end();
    }

    private static void namesEveryCall(List<String> readme) {
        String page = String.join("\n", readme);
        for (Method method : FlakePainter.class.getDeclaredMethods()) {
            if (Modifier.isPublic(method.getModifiers())) {
                String name = "`" + method.getName() + "`";
                Check.due(name + " is in README.md", page.contains(name), true);
            }
        }
    }

    private static void namesEveryTest(List<String> readme) throws IOException {
        String page = String.join("\n", readme);
        try (Stream<Path> tests = Files.list(Path.of("src/test/java"))) {
            for (Path test : (Iterable<Path>) tests::iterator) {
                String name = "`" + test.getFileName().toString().replace(".java", "") + "`";
                Check.due(name + " is in README.md", page.contains(name), true);
            }
        }
    }

    private static void tellsHowToRunAllTests(List<String> readme) {
        Check.due("README.md gives " + ALL_TESTS, blocks(readme, "sh").contains(ALL_TESTS), true);
        Check.due(ALL_TESTS + " can be executed", Files.isExecutable(Path.of(ALL_TESTS)), true);
    }

    private static void commandsWork(List<String> readme, Path copy) throws IOException, InterruptedException {
        Files.write(copy.resolve("Example.java"), blocks(readme, "java"));
        int compiled = 0;
        int examples = 0;
        int tests = 0;
        for (String command : blocks(readme, "sh")) {
            if (command.equals(ALL_TESTS)) {
                continue;
            }
            List<String> printed = run(command, copy);
            compiled += command.startsWith("javac ") ? 1 : 0;
            if (command.startsWith("java ") && command.endsWith(" Example")) {
                examples++;
                Check.dueText("the example's output", String.join("\n", printed), String.join("\n", blocks(readme, "text")));
            } else if (command.startsWith("java ")) {
                tests++;
                Check.due(command + " prints " + printed, printed.toString().matches("\\[\\d+ checks, 0 wrong\\]"), true);
            }
        }
        Check.due("commands that compile", compiled, 3);
        Check.due("commands that run the example", examples, 1);
        Check.due("commands that run one test", tests, 1);
        Check.due("the class is compiled", Files.exists(copy.resolve("build/FlakePainter.class")), true);
    }

    /** All lines of the blocks of one kind. */
    private static List<String> blocks(List<String> readme, String kind) {
        List<String> found = new ArrayList<>();
        boolean inside = false;
        for (String line : readme) {
            if (line.startsWith("```")) {
                inside = line.equals("```" + kind);
            } else if (inside) {
                found.add(line);
            }
        }
        return found;
    }

    private static List<String> run(String command, Path directory) throws IOException, InterruptedException {
        Path output = directory.resolve("output");
        Process process = new ProcessBuilder("sh", "-c", command).directory(directory.toFile())
            .redirectError(ProcessBuilder.Redirect.INHERIT).redirectOutput(output.toFile()).start();
        int code = process.waitFor();
        List<String> printed = Files.readAllLines(output);
        Check.due(command, code, 0);
        return printed;
    }

    private static void copySources(Path copy) throws IOException {
        try (Stream<Path> sources = Files.walk(Path.of("src"))) {
            for (Path source : (Iterable<Path>) sources::iterator) {
                Files.copy(source, copy.resolve(source.toString()));
            }
        }
    }

    private static void remove(Path directory) throws IOException {
        try (Stream<Path> all = Files.walk(directory)) {
            for (Path path : (Iterable<Path>) all.sorted(Comparator.reverseOrder())::iterator) {
                Files.delete(path);
            }
        }
    }
}
