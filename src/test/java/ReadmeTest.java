import java.io.ByteArrayOutputStream;
import java.io.IOException;
import java.io.PrintStream;
import java.net.URL;
import java.net.URLClassLoader;
import java.nio.charset.StandardCharsets;
import java.nio.file.Files;
import java.nio.file.Path;
import java.util.ArrayList;
import java.util.List;
import java.util.regex.Matcher;
import java.util.regex.Pattern;
import javax.tools.ToolProvider;

/** The example of README.md compiles, and prints what it says that it prints. */
public final class ReadmeTest {
    private static final Pattern PRINTS = Pattern.compile("// prints (-?\\d+)");

    public static void main(String[] args) throws IOException, ReflectiveOperationException {
        List<String> example = example(Files.readAllLines(Path.of("README.md")));
        List<String> wanted = new ArrayList<>();
        for (String line : example) {
            Matcher matcher = PRINTS.matcher(line);
            if (matcher.find()) {
                wanted.add(matcher.group(1));
            }
        }
        Check.same("lines of the example that print", wanted.isEmpty(), false);
        Check.same("what the example prints", printed(example), wanted);
        Check.end();
    }

    private static List<String> example(List<String> readme) {
        int first = readme.indexOf("```java") + 1;
        int length = readme.subList(first, readme.size()).indexOf("```");
        return readme.subList(first, first + length);
    }

    private static List<String> printed(List<String> example) throws IOException, ReflectiveOperationException {
        Path room = Files.createTempDirectory("readme");
        Path source = room.resolve("Example.java");
        Path compiled = room.resolve("Example.class");
        try {
            Files.writeString(source, "public class Example { public static void main(String[] args) {\n"
                + String.join("\n", example) + "\n} }\n");
            int failed = ToolProvider.getSystemJavaCompiler().run(null, null, null,
                "-cp", System.getProperty("java.class.path"), "-d", room.toString(), source.toString());
            Check.same("exit code of javac for the example", failed, 0);
            return failed == 0 ? run(room) : List.of();
        } finally {
            Files.deleteIfExists(source);
            Files.deleteIfExists(compiled);
            Files.deleteIfExists(room);
        }
    }

    private static List<String> run(Path room) throws IOException, ReflectiveOperationException {
        PrintStream out = System.out;
        ByteArrayOutputStream caught = new ByteArrayOutputStream();
        try (URLClassLoader loader = new URLClassLoader(new URL[] {room.toUri().toURL()})) {
            System.setOut(new PrintStream(caught, true, StandardCharsets.UTF_8));
            loader.loadClass("Example").getMethod("main", String[].class).invoke(null, (Object) new String[0]);
        } finally {
            System.setOut(out);
        }
        return caught.toString(StandardCharsets.UTF_8).lines().toList();
    }
}
