import java.io.ByteArrayOutputStream;
import java.io.File;
import java.io.PrintStream;
import java.lang.reflect.Method;
import java.net.URL;
import java.net.URLClassLoader;
import java.nio.file.Files;
import java.nio.file.Path;
import java.util.Comparator;
import java.util.stream.Stream;
import javax.tools.ToolProvider;

/** The program that README.md shows can be compiled, and prints what README.md says that it prints. */
public final class ReadmeExample {
    private static String block(String text, String kind) {
        int from = text.indexOf("```" + kind + "\n");
        int to = from < 0 ? -1 : text.indexOf("\n```", from);
        return to < 0 ? "" : text.substring(from + kind.length() + 4, to);
    }

    private static String printed(Path folder) throws Exception {
        PrintStream console = System.out;
        ByteArrayOutputStream bytes = new ByteArrayOutputStream();
        URL[] places = {folder.toUri().toURL()};
        try (URLClassLoader loader = new URLClassLoader(places, ReadmeExample.class.getClassLoader())) {
            Method main = loader.loadClass("Example").getMethod("main", String[].class);
            System.setOut(new PrintStream(bytes, true));
            main.invoke(null, (Object) new String[0]);
        } finally {
            System.setOut(console);
        }
        return bytes.toString().replace("\r\n", "\n").trim();
    }

    private static void remove(Path folder) throws Exception {
        try (Stream<Path> files = Files.walk(folder)) {
            files.sorted(Comparator.reverseOrder()).map(Path::toFile).forEach(File::delete);
        }
    }

    public static void main(String[] args) throws Exception {
        String readme = Files.readString(Path.of("README.md"));
        Path folder = Files.createTempDirectory("readme");
        boolean right = false;
        try {
            Path source = folder.resolve("Example.java");
            Files.writeString(source, block(readme, "java"));
            int failed = ToolProvider.getSystemJavaCompiler().run(null, null, null, "-Xlint:all", "-cp",
                System.getProperty("java.class.path"), "-d", folder.toString(), source.toString());
            String got = failed == 0 ? printed(folder) : "";
            right = failed == 0 && !got.isEmpty() && got.equals(block(readme, "text"));
            System.out.println(right ? "README.md's example prints what it says" : "README.md's example printed:\n" + got);
        } finally {
            remove(folder);
        }
        if (!right) {
            System.exit(1);
        }
    }
}
