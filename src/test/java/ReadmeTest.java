import java.io.ByteArrayOutputStream;
import java.io.IOException;
import java.io.PrintStream;
import java.net.URL;
import java.net.URLClassLoader;
import java.nio.charset.StandardCharsets;
import java.nio.file.Files;
import java.nio.file.Path;
import java.util.Comparator;
import java.util.List;
import javax.tools.ToolProvider;

/** README.md's program is compiled and run: it prints what stands there. */
public final class ReadmeTest {

    public static void main(String[] args) throws Exception {
        String readme = Files.readString(Path.of("README.md"));
        Path place = Files.createTempDirectory("readme");
        try {
            String printed = run(block(readme, "java"), place);
            String told = block(readme, "text");
            Check.due("README.md prints\n" + printed + "where it tells\n" + told, printed.equals(told), true);
        } finally {
            remove(place);
        }
        Check.end("ReadmeTest");
    }

    private static String block(String readme, String language) {
        int start = readme.indexOf("```" + language + "\n");
        int end = readme.indexOf("```\n", start + 3);
        return start < 0 || end < 0 ? "" : readme.substring(readme.indexOf('\n', start) + 1, end);
    }

    private static String run(String program, Path place) throws Exception {
        Path source = Files.writeString(place.resolve("Example.java"), program);
        int failed = ToolProvider.getSystemJavaCompiler().run(null, null, null, "-d", place.toString(),
            "src/main/java/IceTreaty.java", source.toString());
        Check.due("README.md compiles", failed, 0);
        PrintStream before = System.out;
        ByteArrayOutputStream printed = new ByteArrayOutputStream();
        // The class that was compiled just now is asked, not one that this test was started with.
        try (URLClassLoader loader = new URLClassLoader(new URL[] {place.toUri().toURL()}, ClassLoader.getPlatformClassLoader())) {
            System.setOut(new PrintStream(printed, true, StandardCharsets.UTF_8));
            loader.loadClass("Example").getMethod("main", String[].class).invoke(null, (Object) new String[0]);
        } finally {
            System.setOut(before);
        }
        return printed.toString(StandardCharsets.UTF_8).replace("\r\n", "\n");
    }

    private static void remove(Path place) throws IOException {
        List<Path> all;
        try (var walk = Files.walk(place)) {
            all = walk.sorted(Comparator.reverseOrder()).toList();
        }
        for (Path path : all) {
            Files.delete(path);
        }
    }
}
