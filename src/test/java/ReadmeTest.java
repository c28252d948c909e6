import java.io.ByteArrayOutputStream;
import java.io.IOException;
import java.io.PrintStream;
import java.lang.reflect.Method;
import java.lang.reflect.Modifier;
import java.net.URL;
import java.net.URLClassLoader;
import java.nio.charset.StandardCharsets;
import java.nio.file.Files;
import java.nio.file.Path;
import java.util.stream.Stream;
import javax.tools.ToolProvider;

/** README.md says how to use the class: its example prints what is said, and no call is missing. */
public final class ReadmeTest {
    public static void main(String[] args) throws IOException, ReflectiveOperationException {
        String readme = Files.readString(Path.of("README.md"));
        exampleIsTrue(readme);
        everyCallIsTold(readme);
        Check.end();
    }

    private static void exampleIsTrue(String readme)
            throws IOException, ReflectiveOperationException {
        Check.sentence("README: the example prints what stands below it");
        Path folder = Files.createTempDirectory("readme");
        try {
            Path example = folder.resolve("Example.java");
            Files.writeString(example, block(readme, "java"));
            int code = ToolProvider.getSystemJavaCompiler().run(null, null, null,
                    "-cp", System.getProperty("java.class.path"),
                    "-d", folder.toString(), example.toString());
            Check.due("javac of the example", code, 0);
            if (code == 0) {
                Check.dueRow("the example", printed(folder), block(readme, "text"));
            }
        } finally {
            remove(folder);
        }
    }

    private static String block(String readme, String language) {
        String fence = "```" + language + "\n";
        int begin = readme.indexOf(fence) + fence.length();
        return readme.substring(begin, readme.indexOf("```", begin));
    }

    private static String printed(Path folder) throws IOException, ReflectiveOperationException {
        ByteArrayOutputStream caught = new ByteArrayOutputStream();
        PrintStream console = System.out;
        try (URLClassLoader loader = new URLClassLoader(new URL[] {folder.toUri().toURL()})) {
            System.setOut(new PrintStream(caught, true, StandardCharsets.UTF_8));
            loader.loadClass("Example").getMethod("main", String[].class)
                    .invoke(null, (Object) new String[0]);
        } finally {
            System.setOut(console);
        }
        return caught.toString(StandardCharsets.UTF_8);
    }

    private static void remove(Path folder) throws IOException {
        try (Stream<Path> files = Files.list(folder)) {
            for (Path file : (Iterable<Path>) files::iterator) {
                Files.delete(file);
            }
        }
        Files.delete(folder);
    }

    private static void everyCallIsTold(String readme) {
        Check.sentence("README: each call of the face has a line");
        for (Method method : FoldedFamily.class.getDeclaredMethods()) {
            if (Modifier.isPublic(method.getModifiers())) {
                Check.due("a line for " + method.getName(),
                        readme.contains("\n| `" + method.getName() + "("), true);
            }
        }
    }
}
