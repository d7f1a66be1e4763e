import java.io.ByteArrayOutputStream;
import java.io.IOException;
import java.io.PrintStream;
import java.net.URL;
import java.net.URLClassLoader;
import java.nio.charset.StandardCharsets;
import java.nio.file.DirectoryStream;
import java.nio.file.Files;
import java.nio.file.Path;
import javax.tools.ToolProvider;

/** The program in README.md prints what stands below it. */
public final class ReadmeTest {
    private static final String MAIN = "src/main/java/StreamDesk.java";

    private ReadmeTest() {
    }

    public static void main(String[] args) throws ReflectiveOperationException, IOException {
        String readme = Files.readString(Path.of("README.md"));
        String[] due = blockOf(readme, "text").split("\n");
        String[] printed = printedBy(blockOf(readme, "java")).split("\n");
        Due.equal("the number of lines printed", printed.length, due.length);
        for (int i = 0; i < due.length && i < printed.length; i++) {
            Due.yes("the line \"" + printed[i] + "\", due is \"" + due[i] + "\"", printed[i].equals(due[i]));
        }
        Due.end();
    }

    /** What stands in the first block of this kind. */
    private static String blockOf(String readme, String kind) {
        String begin = "```" + kind + "\n";
        int start = readme.indexOf(begin) + begin.length();
        return readme.substring(start, readme.indexOf("```", start));
    }

    private static String printedBy(String program) throws ReflectiveOperationException, IOException {
        Path folder = Files.createTempDirectory("readme");
        Path file = folder.resolve("Example.java");
        Files.writeString(file, program);
        int failed = ToolProvider.getSystemJavaCompiler().run(null, null, null, "-d", folder.toString(), MAIN, file.toString());
        Due.equal("the compiler", failed, 0);
        ByteArrayOutputStream printed = new ByteArrayOutputStream();
        PrintStream before = System.out;
        try (URLClassLoader loader = new URLClassLoader(new URL[] {folder.toUri().toURL()}, null)) {
            System.setOut(new PrintStream(printed, true, StandardCharsets.UTF_8));
            loader.loadClass("Example").getMethod("main", String[].class).invoke(null, (Object) new String[0]);
        } finally {
            System.setOut(before);
            remove(folder);
        }
        return printed.toString(StandardCharsets.UTF_8);
    }

    private static void remove(Path folder) throws IOException {
        try (DirectoryStream<Path> files = Files.newDirectoryStream(folder)) {
            for (Path file : files) {
                Files.delete(file);
            }
        }
        Files.delete(folder);
    }
}
