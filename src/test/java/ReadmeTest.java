import java.io.ByteArrayOutputStream;
import java.io.IOException;
import java.io.PrintStream;
import java.lang.reflect.InvocationTargetException;
import java.net.URL;
import java.net.URLClassLoader;
import java.nio.file.Files;
import java.nio.file.Path;
import javax.tools.ToolProvider;

/** The example of README.md compiles, and prints what stands there. */
public final class ReadmeTest extends Check {
    private static final Path README = Path.of("README.md");
    private static final Path CLASSES = Path.of("build/main");
    private static final Path FOLDER = Path.of("build/readme");

    public static void main(String[] args) throws IOException, ReflectiveOperationException {
        String readme = Files.readString(README);
        Files.createDirectories(FOLDER);
        Path source = FOLDER.resolve("Example.java");
        Files.writeString(source, block(readme, "java"));
        due("the example compiles", 0, () -> ToolProvider.getSystemJavaCompiler().run(null, null, null, "--release",
            "17", "-encoding", "UTF-8", "-Xlint:all", "-Werror", "-cp", CLASSES.toString(), "-d", FOLDER.toString(),
            source.toString()));
        dueText("the example", block(readme, "text"), printed());
        end();
    }

    /** The first block of this kind, "" if there is none. */
    private static String block(String readme, String kind) {
        String head = "\n```" + kind + "\n";
        int from = readme.indexOf(head);
        int to = readme.indexOf("\n```\n", from + head.length());
        return from < 0 || to < 0 ? "" : readme.substring(from + head.length(), to + 1);
    }

    private static String printed() throws IOException, ReflectiveOperationException {
        PrintStream before = System.out;
        ByteArrayOutputStream bytes = new ByteArrayOutputStream();
        URL[] folders = {FOLDER.toUri().toURL()};
        try (URLClassLoader loader = new URLClassLoader(folders, ReadmeTest.class.getClassLoader())) {
            System.setOut(new PrintStream(bytes, true));
            loader.loadClass("Example").getMethod("main", String[].class).invoke(null, (Object) new String[0]);
        } catch (ClassNotFoundException e) {
            return "no class Example";
        } catch (InvocationTargetException e) {
            return bytes + "stopped by " + e.getCause();
        } finally {
            System.setOut(before);
        }
        return bytes.toString().replace(System.lineSeparator(), "\n");
    }
}
