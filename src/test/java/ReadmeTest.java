import java.io.IOException;
import java.lang.reflect.Method;
import java.lang.reflect.Modifier;
import java.nio.file.Files;
import java.nio.file.Path;
import java.util.ArrayList;
import java.util.Comparator;
import java.util.List;
import java.util.TreeSet;
import java.util.regex.Matcher;
import java.util.regex.Pattern;
import java.util.stream.Stream;

/** README.md does what it says: its program, its commands and what they print, and its tables. */
public final class ReadmeTest {
    private static final Path README = Path.of("README.md");
    private static final Path DESK = Path.of("src/main/java/ChordDesk.java");
    private static final Path TESTS = Path.of("src/test/java");

    public static void main(String[] args) throws IOException, InterruptedException {
        String page = Files.readString(README);
        String using = section(page, "## How to use it\n");
        String testing = section(page, "## How to run its tests\n");
        Path folder = Files.createTempDirectory("readme");
        try {
            programDoesWhatThePageSays(using, folder);
        } finally {
            remove(folder);
        }
        Check.same("the calls in the first column", firstColumn(using), face());
        Check.same("the tests in the first column", firstColumn(testing), tests());
        Check.same("the command for the tests", commands(testing), List.of("bash .ci/run"));
        Check.isTrue(".ci/run can be run", Files.isExecutable(Path.of(".ci/run")));
        Check.end("ReadmeTest");
    }

    /** In a folder that holds nothing but the class and the page's program, as a clean checkout would. */
    private static void programDoesWhatThePageSays(String using, Path folder)
            throws IOException, InterruptedException {
        Files.createDirectories(folder.resolve(DESK).getParent());
        Files.copy(DESK, folder.resolve(DESK));
        Files.writeString(folder.resolve("Chords.java"), block(using, "java"));
        List<String> commands = commands(using);
        Check.same("commands", commands.size(), 2);
        String printed = "";
        for (String command : commands) {
            printed += run(command, folder);
        }
        Check.same("what the page's program prints", printed, block(using, "text"));
    }

    /** What a command prints; one that fails says so behind it. What it tells as errors is passed on. */
    private static String run(String command, Path folder) throws IOException, InterruptedException {
        Process process = new ProcessBuilder(command.split(" "))
            .directory(folder.toFile()).redirectError(ProcessBuilder.Redirect.INHERIT).start();
        String printed = new String(process.getInputStream().readAllBytes());
        int code = process.waitFor();
        return code == 0 ? printed : printed + command + " ended with " + code + "\n";
    }

    private static String section(String page, String heading) {
        int start = page.indexOf(heading) + heading.length();
        int end = page.indexOf("\n## ", start);
        return page.substring(start, end < 0 ? page.length() : end);
    }

    /** The lines between ```kind and ```. */
    private static String block(String text, String kind) {
        int start = text.indexOf("\n```" + kind + "\n") + kind.length() + 5;
        return text.substring(start, text.indexOf("\n```\n", start) + 1);
    }

    /** The lines that are set in by four blanks, outside the blocks. */
    private static List<String> commands(String text) {
        List<String> commands = new ArrayList<>();
        boolean inBlock = false;
        for (String line : text.split("\n")) {
            inBlock ^= line.startsWith("```");
            if (!inBlock && line.startsWith("    ")) {
                commands.add(line.substring(4));
            }
        }
        return commands;
    }

    /** The names in a table's first column. */
    private static TreeSet<String> firstColumn(String text) {
        TreeSet<String> names = new TreeSet<>();
        for (String line : text.split("\n")) {
            if (line.startsWith("| `")) {
                Matcher name = Pattern.compile("`(\\w+)`").matcher(line.substring(0, line.indexOf(" |")));
                while (name.find()) {
                    names.add(name.group(1));
                }
            }
        }
        return names;
    }

    private static TreeSet<String> face() {
        TreeSet<String> names = new TreeSet<>();
        for (Method method : ChordDesk.class.getDeclaredMethods()) {
            if (Modifier.isPublic(method.getModifiers())) {
                names.add(method.getName());
            }
        }
        return names;
    }

    private static TreeSet<String> tests() throws IOException {
        TreeSet<String> names = new TreeSet<>();
        try (Stream<Path> files = Files.list(TESTS)) {
            files.map(file -> file.getFileName().toString()).filter(name -> name.endsWith("Test.java"))
                .forEach(name -> names.add(name.replace(".java", "")));
        }
        return names;
    }

    private static void remove(Path folder) throws IOException {
        try (Stream<Path> files = Files.walk(folder)) {
            for (Path file : files.sorted(Comparator.reverseOrder()).toList()) {
                Files.delete(file);
            }
        }
    }
}
