import java.io.File;
import java.io.IOException;
import java.nio.file.Files;
import java.nio.file.Path;
import java.util.ArrayList;
import java.util.List;

/**
 * What README.md says holds: its program is compiled and run, and prints what stands behind
 * "// prints"; the paths that it names are there. To be run from the project's folder.
 */
public final class ReadmeTest {
    private static final String MARK = "// prints ";
    private static final String CLASSES = System.getProperty("java.class.path");
    private static final Path BUILD = Path.of("build", "readme");

    public static void main(String[] args) throws Exception {
        String readme = Files.readString(Path.of("README.md"));
        String program = programIn(readme);
        Check.due("what the program prints", printedBy(program), markedIn(program));
        namesWhatIsThere(readme);
        Check.end();
    }

    private static String programIn(String readme) {
        String[] parts = readme.split("```java\n|```\n");
        Check.due("README.md has a program, and text around it", parts.length, 3);
        return parts[1];
    }

    private static List<String> markedIn(String program) {
        List<String> marked = new ArrayList<>();
        for (String line : program.split("\n")) {
            int mark = line.indexOf(MARK);
            Check.due("the line '" + line + "' tells what it prints", mark >= 0,
                line.contains("System.out.println"));
            if (mark >= 0) {
                marked.add(line.substring(mark + MARK.length()));
            }
        }
        Check.due("the program prints nothing", marked.isEmpty(), false);
        return marked;
    }

    private static List<String> printedBy(String program) throws Exception {
        Path source = BUILD.resolve("ReadmeProgram.java");
        Files.createDirectories(BUILD);
        Files.writeString(source, "public class ReadmeProgram {\n"
            + "public static void main(String[] args) {\n" + program + "}\n}\n");
        run("javac", "--release", "17", "-cp", CLASSES, "-d", BUILD.toString(), source.toString());
        return run("java", "-cp", CLASSES + File.pathSeparator + BUILD, "ReadmeProgram");
    }

    /** Runs a command, which must end with exit code 0; the lines that it prints. */
    private static List<String> run(String... command) throws IOException, InterruptedException {
        Process process = new ProcessBuilder(command).redirectErrorStream(true).start();
        List<String> lines = new String(process.getInputStream().readAllBytes()).lines().toList();
        int exit = process.waitFor();
        Check.due(command[0] + " printed " + lines + " and its exit code", exit, 0);
        return lines;
    }

    private static void namesWhatIsThere(String readme) {
        String[] paths = {"src/main/java/ZhegalkinBench.java", "../shared/DOC.md", ".ci/run",
            "../shared/tests", "src/test/java"};
        for (String path : paths) {
            Check.due("README.md names " + path, readme.contains(path), true);
            Check.due(path + " is there", Files.exists(Path.of(path)), true);
        }
    }
}
