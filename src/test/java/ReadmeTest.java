import java.io.IOException;
import java.nio.file.Files;
import java.nio.file.Path;
import java.util.ArrayList;
import java.util.List;
import java.util.TreeSet;
import java.util.concurrent.TimeUnit;
import java.util.regex.Matcher;
import java.util.regex.Pattern;
import java.util.stream.Stream;

/** README.md: its commands work as they stand there and print what it says, and its table names each call. */
public final class ReadmeTest {
    private static final Path HERE = Path.of("").toAbsolutePath();
    private static final Pattern BLOCK = Pattern.compile("(?ms)^```(\\w*)\\n(.*?)^```$");
    private static final Pattern ROW = Pattern.compile("(?m)^\\| `(?:new )?(\\w+)\\(([^)]*)\\)`( \\*)? \\| .+ \\|$");
    private static final Pattern CALL = Pattern.compile("(?ms)^    public (?:\\w+ )?(\\w+)\\(([^)]*)\\)(.*?)^    }$");
    private static final String ALL_TESTS = ".ci/run";

    private static int commands = 0;

    public static void main(String[] args) throws IOException, InterruptedException {
        String readme = Files.readString(HERE.resolve("README.md"));
        Path folder = Files.createTempDirectory("readme");
        try {
            Path copy = copied(folder);
            runBlocks(readme, copy);
        } finally {
            remove(folder);
        }
        Script.due("README.md has commands for the class and for the tests", true, commands >= 4);
        Script.due("README.md tells how to run all tests", true, readme.contains("```sh\n" + ALL_TESTS + "\n```"));
        Script.due(ALL_TESTS + " can be run", true, Files.isExecutable(HERE.resolve(ALL_TESTS)));
        compareTable(readme);
        namesEachTest(readme);
        Script.finish();
    }

    /** A copy, so that the commands see what has been committed to the project's folders and leave nothing in them. */
    private static Path copied(Path folder) throws IOException {
        Files.createSymbolicLink(folder.resolve("shared"), HERE.resolve("../shared").normalize());
        Path copy = folder.resolve("project");
        List<Path> files = new ArrayList<>();
        try (Stream<Path> found = Files.walk(HERE.resolve("src"))) {
            found.filter(Files::isRegularFile).forEach(files::add);
        }
        for (Path file : files) {
            Path target = copy.resolve(HERE.relativize(file));
            Files.createDirectories(target.getParent());
            Files.copy(file, target);
        }
        return copy;
    }

    private static void remove(Path folder) throws IOException {
        List<Path> files = new ArrayList<>();
        try (Stream<Path> found = Files.walk(folder)) {
            found.forEach(files::add);
        }
        for (int i = files.size() - 1; i >= 0; i--) {
            Files.delete(files.get(i));
        }
    }

    private static void runBlocks(String readme, Path copy) throws IOException, InterruptedException {
        String printed = "";
        Matcher block = BLOCK.matcher(readme);
        while (block.find()) {
            String text = block.group(2);
            switch (block.group(1)) {
                case "sh" -> printed = text.strip().equals(ALL_TESTS) ? "" : run(text, copy);
                case "text" -> Script.due("the commands of README.md above this text", text, printed);
                case "java" -> Script.due("the program in README.md", text,
                        Files.readString(HERE.resolve("src/example/java/Example.java")));
                default -> Script.due("a block of README.md", "sh, text or java", block.group(1));
            }
        }
    }

    private static String run(String text, Path copy) throws IOException, InterruptedException {
        commands++;
        Path output = Files.createTempFile(copy, "printed", "");
        Process process = new ProcessBuilder("bash", "-e", "-c", text).directory(copy.toFile())
                .redirectErrorStream(true).redirectOutput(output.toFile()).start();
        if (!process.waitFor(300, TimeUnit.SECONDS)) {
            process.descendants().forEach(ProcessHandle::destroyForcibly);
            process.destroyForcibly().waitFor();
        }
        String printed = Files.readString(output);
        Script.due(text.strip() + "\nprinted\n" + printed + "and its exit code", 0, process.exitValue());
        return printed;
    }

    private static String told(String name, String parameters, boolean undoable) {
        return name + "(" + parameters + ")" + (undoable ? " *" : "");
    }

    /** The calls of the table and the class's own, with the names of their parameters and whether they save. */
    private static void compareTable(String readme) throws IOException {
        TreeSet<String> due = new TreeSet<>();
        Matcher call = CALL.matcher(Files.readString(HERE.resolve("src/main/java/CourtRelays.java")));
        while (call.find()) {
            due.add(told(call.group(1), call.group(2).replace("int ", ""), call.group(3).contains("history.save(")));
        }
        TreeSet<String> named = new TreeSet<>();
        Matcher row = ROW.matcher(readme);
        while (row.find()) {
            named.add(told(row.group(1), row.group(2), row.group(3) != null));
        }
        Script.due("the calls of the class", 27, due.size());
        Script.due("the calls that README.md names", due, named);
    }

    private static void namesEachTest(String readme) throws IOException {
        try (Stream<Path> tests = Files.list(HERE.resolve("src/test/java"))) {
            tests.map(test -> test.getFileName().toString().replace(".java", "")).forEach(
                    name -> Script.due("README.md tells of " + name, true, readme.contains("`" + name + "`")));
        }
    }
}
