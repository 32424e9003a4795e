import java.io.ByteArrayOutputStream;
import java.io.IOException;
import java.nio.file.Files;
import java.nio.file.Path;
import javax.tools.JavaCompiler;
import javax.tools.ToolProvider;

/** README.md's example: it compiles against the class as it stands, and prints the text that stands below it. */
public final class ReadmeTest {
    public static void main(String[] args) throws IOException, InterruptedException {
        String readme = Files.readString(Path.of("README.md"));
        Path directory = Files.createTempDirectory("readme");
        Path source = directory.resolve("Example.java");
        Files.writeString(source, block(readme, "java"));
        String classPath = System.getProperty("java.class.path");
        Check.due("what javac says of the example", compiled(source, directory, classPath), "");
        Check.due("the example", printed(directory, classPath), block(readme, "text"));
        remove(directory);
        Check.end();
    }

    /** What stands in the first block of code in that language. */
    private static String block(String readme, String language) {
        String opening = "```" + language + "\n";
        int from = readme.indexOf(opening);
        if (from < 0) {
            return "no block of " + language;
        }
        from += opening.length();
        return readme.substring(from, readme.indexOf("```", from));
    }

    private static String compiled(Path source, Path directory, String classPath) {
        JavaCompiler compiler = ToolProvider.getSystemJavaCompiler();
        ByteArrayOutputStream said = new ByteArrayOutputStream();
        compiler.run(null, said, said, "--release", "17", "-Xlint:all", "-cp", classPath, "-d", directory.toString(),
            source.toString());
        return said.toString();
    }

    private static String printed(Path directory, String classPath) throws IOException, InterruptedException {
        String java = Path.of(System.getProperty("java.home"), "bin", "java").toString();
        String both = directory + System.getProperty("path.separator") + classPath;
        Process process = new ProcessBuilder(java, "-cp", both, "Example").redirectErrorStream(true).start();
        String said = new String(process.getInputStream().readAllBytes());
        return process.waitFor() == 0 ? said : "exit code " + process.exitValue() + " behind " + said;
    }

    private static void remove(Path directory) throws IOException {
        for (String name : new String[] {"Example.java", "Example.class"}) {
            Files.deleteIfExists(directory.resolve(name));
        }
        Files.deleteIfExists(directory);
    }
}
