import java.io.IOException;
import java.nio.file.Files;
import java.nio.file.Path;
import java.util.ArrayList;
import java.util.List;

/**
 * README.md's example of use: in a folder of its own with the class beside it, its commands compile and run it,
 * and it prints what its comments say. To be run from the project's folder.
 */
public final class ReadmeTest {
    private static final Path README = Path.of("README.md");
    private static final Path CLASS = Path.of("src", "main", "java", "EchoRegistry.java");
    private static final String FENCE = "```";
    private static final String TOLD = "// prints ";

    public static void main(String[] args) throws IOException, InterruptedException {
        List<String> example = firstBlock("java");
        Path folder = Files.createTempDirectory("readme");
        try {
            Files.copy(CLASS, folder.resolve(CLASS.getFileName()));
            Files.write(folder.resolve("Survey.java"), example);
            Check.same("the example's output", outputOf(firstBlock("sh"), folder), String.join("\n", toldBy(example)));
        } finally {
            delete(folder);
        }
        Check.end("ReadmeTest");
    }

    /** The lines of README.md's first block in this language; none if there is no such block. */
    private static List<String> firstBlock(String language) throws IOException {
        List<String> lines = Files.readAllLines(README);
        int begin = lines.indexOf(FENCE + language) + 1;
        int end = begin + lines.subList(begin, lines.size()).indexOf(FENCE);
        boolean found = begin > 0 && end > begin;
        Check.due("README.md has a block in " + language, found, true);
        return found ? lines.subList(begin, end) : List.of();
    }

    /** What the comments say that is printed: from TOLD to the colon. */
    private static List<String> toldBy(List<String> example) {
        List<String> told = new ArrayList<>();
        for (String line : example) {
            int begin = line.indexOf(TOLD);
            if (begin >= 0) {
                told.add(line.substring(begin + TOLD.length()).split(":")[0]);
            }
        }
        Check.due("the comments say something", told.isEmpty(), false);
        return told;
    }

    private static String outputOf(List<String> commands, Path folder) throws IOException, InterruptedException {
        StringBuilder output = new StringBuilder();
        for (String command : commands) {
            List<String> words = List.of(command.split(" "));
            boolean known = words.get(0).equals("javac") || words.get(0).equals("java");
            Check.due(command + " is a command of Java's", known, true);
            if (known) {
                output.append(outputOf(command, new ProcessBuilder(words).directory(folder.toFile())));
            }
        }
        return output.toString().strip();
    }

    /** What it prints as answers; what Java itself has to say goes where this test's own errors go. */
    private static String outputOf(String command, ProcessBuilder builder) throws IOException, InterruptedException {
        Process process = builder.redirectError(ProcessBuilder.Redirect.INHERIT).start();
        String output = new String(process.getInputStream().readAllBytes());
        Check.due(command + " ended with", process.waitFor(), 0);
        return output;
    }

    private static void delete(Path folder) throws IOException {
        try (var files = Files.list(folder)) {
            for (Path file : files.toList()) {
                Files.delete(file);
            }
        }
        Files.delete(folder);
    }
}
