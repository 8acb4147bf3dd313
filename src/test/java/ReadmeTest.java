import java.io.IOException;
import java.nio.charset.StandardCharsets;
import java.nio.file.Files;
import java.nio.file.Path;
import java.util.ArrayList;
import java.util.Comparator;
import java.util.List;
import java.util.stream.Stream;

/** The run of calls in README.md, compiled and started with the commands that stand there, answers as told there. */
public final class ReadmeTest {
    private static final Path README = Path.of("README.md");
    private static final Path PROGRAM = Path.of("src", "main", "java", "TramNetwork.java");
    private static final Path FOLDER = Path.of("build", "readme");

    private ReadmeTest() {
    }

    public static void main(String[] args) throws IOException, InterruptedException {
        Check check = new Check();
        List<String> readme = Files.readAllLines(README, StandardCharsets.UTF_8);
        List<String> trip = tripOf(readme);
        check.no("no run of calls in " + README, trip.isEmpty());
        emptyFolder();
        Files.copy(PROGRAM, FOLDER.resolve("TramNetwork.java"));
        Files.write(FOLDER.resolve("Trip.java"), trip, StandardCharsets.UTF_8);
        outputOf(commandOf(readme, "javac "), check);
        compare(check, toldAnswers(trip), outputOf(commandOf(readme, "java "), check));
        check.finish();
    }

    private static void emptyFolder() throws IOException {
        if (Files.exists(FOLDER)) {
            try (Stream<Path> old = Files.walk(FOLDER)) {
                for (Path path : old.sorted(Comparator.reverseOrder()).toList()) {
                    Files.delete(path);
                }
            }
        }
        Files.createDirectories(FOLDER);
    }

    /** The first block of code. */
    private static List<String> tripOf(List<String> readme) {
        int first = readme.indexOf("```java") + 1;
        List<String> rest = readme.subList(first, readme.size());
        return first == 0 ? List.of() : rest.subList(0, Math.max(0, rest.indexOf("```")));
    }

    /** The first line that is shown as a command and begins so. */
    private static List<String> commandOf(List<String> readme, String beginning) {
        for (String line : readme) {
            if (line.startsWith("    " + beginning)) {
                return List.of(line.trim().split(" "));
            }
        }
        throw new IllegalStateException("README.md has no command " + beginning);
    }

    private static List<String> outputOf(List<String> command, Check check) throws IOException, InterruptedException {
        ProcessBuilder builder = new ProcessBuilder(command).directory(FOLDER.toFile());
        // The machine may have something to say of its own there, as of options that it picked up.
        Process process = builder.redirectError(ProcessBuilder.Redirect.INHERIT).start();
        String output = new String(process.getInputStream().readAllBytes(), StandardCharsets.UTF_8);
        check.same("the exit code of " + command, 0, process.waitFor());
        return output.lines().toList();
    }

    /** A line that prints has its answer in a comment at its end, and may have an explanation in brackets behind it. */
    private static List<String> toldAnswers(List<String> trip) {
        List<String> answers = new ArrayList<>();
        for (String line : trip) {
            if (line.contains("println(")) {
                int comment = line.indexOf("// ");
                answers.add(comment < 0 ? "no answer" : line.substring(comment + 3).replaceFirst(" \\(.*\\)$", ""));
            }
        }
        return answers;
    }

    private static void compare(Check check, List<String> told, List<String> got) {
        check.same("the number of answers", told.size(), got.size());
        for (int index = 0; index < Math.min(told.size(), got.size()); index++) {
            check.same("answer " + (index + 1), told.get(index), got.get(index));
        }
    }
}
