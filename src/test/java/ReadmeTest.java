import java.io.IOException;
import java.net.URL;
import java.net.URLClassLoader;
import java.nio.file.Files;
import java.nio.file.Path;
import java.util.regex.Matcher;
import java.util.regex.Pattern;
import java.util.stream.Stream;
import javax.tools.ToolProvider;

/** What README.md shows: its Java compiles, and each call answers the number that stands behind it. */
public final class ReadmeTest {
    private static final Path README = Path.of("README.md");
    private static final Pattern BLOCK = Pattern.compile("(?s)```java\n(.*?)```");
    private static final Pattern ANSWERED = Pattern.compile("(?m)^(x\\.\\w+\\(.*\\)); +// (-?\\d+)\\b.*$");

    private static int asked = 0;
    private static int wrong = 0;

    public static void main(String[] args) throws Exception {
        Path room = Files.createTempDirectory("readme");
        try {
            run(room, program(Files.readString(README)));
        } finally {
            clear(room);
        }
        if (asked == 0) due("calls shown", 0, 1);
        System.out.println(asked + " answers of README.md asked, " + wrong + " wrong");
        if (wrong != 0) System.exit(1);
    }

    /** Called by the program that is made of README.md. */
    public static void due(String call, int got, int want) {
        asked++;
        if (got != want) {
            wrong++;
            System.out.println("README.md: " + call + " answered " + got + ", it says " + want);
        }
    }

    private static String program(String readme) {
        StringBuilder members = new StringBuilder();
        StringBuilder statements = new StringBuilder();
        Matcher blocks = BLOCK.matcher(readme);
        while (blocks.find()) {
            String block = blocks.group(1);
            (block.startsWith("static ") ? members : statements).append(block);
        }
        String asking = ANSWERED.matcher(statements).replaceAll("ReadmeTest.due(\"$1\", $1, $2);");
        return "public class Shown {\n" + members + "public static void main(String[] args) {\n" + asking + "}\n}\n";
    }

    private static void run(Path room, String program) throws Exception {
        Path file = Files.writeString(room.resolve("Shown.java"), program);
        String known = System.getProperty("java.class.path");
        int result = ToolProvider.getSystemJavaCompiler().run(null, null, null, "-cp", known, "-d", room.toString(), file.toString());
        if (result != 0) {
            due("javac of its Java", result, 0);
            return;
        }
        try (URLClassLoader loader = new URLClassLoader(new URL[] {room.toUri().toURL()}, ReadmeTest.class.getClassLoader())) {
            loader.loadClass("Shown").getMethod("main", String[].class).invoke(null, (Object) new String[0]);
        }
    }

    private static void clear(Path room) throws IOException {
        try (Stream<Path> files = Files.list(room)) {
            for (Path file : files.toList()) Files.delete(file);
        }
        Files.delete(room);
    }
}
