import java.io.IOException;
import java.nio.file.Files;
import java.nio.file.Path;
import java.util.ArrayList;
import java.util.List;

/** The program in README.md compiles as it stands and prints what the page says. */
final class ReadmeTest {
    private static final Checks CHECKS = new Checks();
    private static final String FENCE = "```";

    public static void main(String[] args) throws IOException, InterruptedException {
        CHECKS.says("README.md says how to use the class");
        List<String> page = Files.readAllLines(Path.of("README.md"));
        List<String> want = block(page, "text");
        List<String> got = run(block(page, "java"));
        CHECKS.due("README.md tells nothing that its program prints", want.isEmpty(), false);
        CHECKS.due("README.md tells " + want + ", its program prints " + got + ": the same", got.equals(want), true);
        CHECKS.finish();
    }

    /** The lines of the first fenced block of a kind. */
    private static List<String> block(List<String> page, String kind) {
        List<String> lines = new ArrayList<>();
        int first = page.indexOf(FENCE + kind) + 1;
        for (int i = first; first > 0 && i < page.size() && !page.get(i).equals(FENCE); i++) {
            lines.add(page.get(i));
        }
        return lines;
    }

    /** What a program of one file prints; java compiles it on its own, and tells of errors beside it. */
    private static List<String> run(List<String> program) throws IOException, InterruptedException {
        Path folder = Files.createTempDirectory("readme");
        Path file = folder.resolve("Example.java");
        Path printed = folder.resolve("printed");
        Files.write(file, program);
        Process process = new ProcessBuilder("java", "-cp", System.getProperty("java.class.path"), file.toString())
            .redirectError(ProcessBuilder.Redirect.INHERIT).redirectOutput(printed.toFile()).start();
        process.waitFor();
        List<String> lines = Files.readAllLines(printed);
        Files.delete(printed);
        Files.delete(file);
        Files.delete(folder);
        return lines;
    }
}
