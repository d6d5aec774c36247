import java.io.ByteArrayOutputStream;
import java.io.IOException;
import java.net.URL;
import java.net.URLClassLoader;
import java.nio.file.Files;
import java.nio.file.Path;
import java.util.Comparator;
import java.util.List;
import java.util.stream.Stream;
import javax.tools.JavaCompiler;
import javax.tools.ToolProvider;

/** A folder of its own for classes that a test makes, compiled with the classes of the tests. */
final class Compiled implements AutoCloseable {
    private final Path folder;
    private final URLClassLoader loader;

    Compiled() throws IOException {
        folder = Files.createTempDirectory("readme");
        loader = new URLClassLoader(new URL[] {folder.toUri().toURL()}, Compiled.class.getClassLoader());
    }

    /** What javac says against it; an empty text when it compiles. */
    String compile(String name, String source) throws IOException {
        JavaCompiler javac = ToolProvider.getSystemJavaCompiler();
        if (javac == null) {
            return "this java has no javac";
        }
        Path file = folder.resolve(name + ".java");
        Files.writeString(file, source);
        ByteArrayOutputStream said = new ByteArrayOutputStream();
        int code = javac.run(null, said, said, "-proc:none", "-cp", System.getProperty("java.class.path"), "-d",
                folder.toString(), file.toString());
        return code == 0 ? "" : said.toString();
    }

    void use(String name, List<String> answers) throws ReflectiveOperationException {
        loader.loadClass(name).getMethod("use", List.class).invoke(null, answers);
    }

    @Override
    public void close() throws IOException {
        loader.close();
        try (Stream<Path> inside = Files.walk(folder)) {
            for (Path path : inside.sorted(Comparator.reverseOrder()).toList()) {
                Files.delete(path);
            }
        }
    }
}
