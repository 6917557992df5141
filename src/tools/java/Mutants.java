import java.io.IOException;
import java.nio.file.Files;
import java.nio.file.Path;
import java.util.ArrayList;
import java.util.List;
import java.util.concurrent.ExecutorService;
import java.util.concurrent.Executors;
import java.util.concurrent.Future;
import java.util.concurrent.TimeUnit;
import java.util.regex.Matcher;
import java.util.regex.Pattern;
import java.util.stream.Stream;
import javax.tools.JavaCompiler;
import javax.tools.ToolProvider;

/**
 * Breaks the class in one place after another (a sign, a number, a statement left out) and tells which breaks no test of
 * some sees. Run by hand from the project's root, as it takes a quarter of an hour: java src/tools/java/Mutants.java TESTS.
 */
public final class Mutants {
    private static final Path SOURCE = Path.of("src/main/java/BookBarge.java");
    private static final int SECONDS = 60;

    private record Break(int from, int to, String into) {
    }

    private final List<Break> breaks = new ArrayList<>();
    private final JavaCompiler compiler = ToolProvider.getSystemJavaCompiler();
    private final String source;
    private final String bare;
    private final Path room;
    private final List<String> names;

    private Mutants(List<String> names) throws IOException {
        this.names = names;
        source = Files.readString(SOURCE);
        bare = bared(source);
        room = Files.createTempDirectory("mutants");
    }

    public static void main(String[] args) throws Exception {
        new Mutants(args.length > 0 ? List.of(args) : List.of("BoundaryTest")).go();
    }

    /** The source with comments and texts blotted out, each byte where it was. */
    private static String bared(String source) {
        Matcher m = Pattern.compile("(?s)/\\*.*?\\*/|//[^\n]*|\"[^\"\n]*\"|'[^'\n]'").matcher(source);
        return m.replaceAll(found -> found.group().replaceAll("[^\n]", "_"));
    }

    /** Each place of a pattern's first group, with what is put there, one after the other. */
    private void find(String pattern, String... pairs) {
        Matcher m = Pattern.compile(pattern).matcher(bare);
        while (m.find()) {
            for (int i = 0; i < pairs.length; i += 2) {
                if (m.group(1).equals(pairs[i])) breaks.add(new Break(m.start(1), m.end(1), pairs[i + 1]));
            }
        }
    }

    private void findAll() {
        find("(?<![<>=!+-])(<=|>=|==|!=|<|>)(?![<>=])", "<", "<=", "<", ">=", "<=", "<", "<=", ">", ">", ">=", ">", "<=", ">=",
            ">", ">=", "<", "==", "!=", "!=", "==");
        find("(&&|\\|\\|)", "&&", "||", "||", "&&");
        find(" ([-+*/%|&]) ", "+", "-", "-", "+", "*", "+", "/", "*", "%", "*", "|", "&", "&", "|");
        find("(\\+\\+|--)(?=[;)])", "++", "--", "--", "++");
        find("(\\+=|-=|\\|=|&=)", "+=", "-=", "-=", "+=", "|=", "&=", "&=", "|=");
        find("\\b(true|false)\\b", "true", "false", "false", "true");
        find("Math\\.(min|max|abs)\\b", "min", "max", "max", "min");
        find("(!)(?=[\\w(])", "!", "");
        Matcher numbers = Pattern.compile("(?<![\\w.])(\\d+)(?![\\w.])").matcher(bare);
        while (numbers.find()) {
            long n = Long.parseLong(numbers.group());
            breaks.add(new Break(numbers.start(), numbers.end(), "" + (n + 1)));
            if (n > 0) breaks.add(new Break(numbers.start(), numbers.end(), "" + (n - 1)));
        }
        Matcher statements = Pattern.compile("(?m)^ +((?!final|private|static|int |long |boolean |char |World |break|continue)"
            + "[^\n{}]*;)$").matcher(bare);
        while (statements.find()) breaks.add(new Break(statements.start(1), statements.end(1), ";"));
    }

    private void go() throws Exception {
        Path tests = Files.createDirectory(room.resolve("tests"));
        List<String> files = new ArrayList<>(List.of("-d", tests.toString(), SOURCE.toString()));
        try (Stream<Path> all = Files.list(Path.of("src/test/java"))) {
            all.forEach(file -> files.add(file.toString()));
        }
        compiler.run(null, null, null, files.toArray(new String[0]));
        findAll();
        ExecutorService pool = Executors.newFixedThreadPool(Runtime.getRuntime().availableProcessors());
        List<Future<String>> told = new ArrayList<>();
        for (int i = 0; i < breaks.size(); i++) {
            int number = i;
            told.add(pool.submit(() -> tried(number, tests)));
        }
        int unseen = 0;
        for (Future<String> one : told) {
            if (one.get() == null) continue;
            unseen++;
            System.out.println(one.get());
        }
        pool.shutdown();
        System.out.println(breaks.size() + " breaks, " + unseen + " not seen by " + String.join(", ", names));
    }

    /** What a break is, if no test sees it; null if one does, or if the break does not compile. */
    private String tried(int number, Path tests) throws IOException, InterruptedException {
        Break one = breaks.get(number);
        Path here = Files.createDirectory(room.resolve("" + number));
        Path file = here.resolve("BookBarge.java");
        Files.writeString(file, source.substring(0, one.from) + one.into + source.substring(one.to));
        if (compiler.run(null, new Nowhere(), new Nowhere(), "-d", here.toString(), file.toString()) != 0) return null;
        for (String name : names) if (sees(name, here + ":" + tests)) return null;
        int line = (int) source.substring(0, one.from).chars().filter(c -> c == '\n').count();
        String text = source.split("\n", -1)[line].trim();
        return (line + 1) + ": " + source.substring(one.from, one.to) + " => " + one.into + "   in: " + text;
    }

    private static boolean sees(String test, String classes) throws IOException, InterruptedException {
        Process run = new ProcessBuilder("java", "-XX:TieredStopAtLevel=1", "-XX:+UseSerialGC", "-cp", classes, test)
            .redirectErrorStream(true).redirectOutput(ProcessBuilder.Redirect.DISCARD).start();
        boolean isOver = run.waitFor(SECONDS, TimeUnit.SECONDS);
        if (!isOver) run.destroyForcibly();
        return !isOver || run.exitValue() != 0;
    }

    private static final class Nowhere extends java.io.OutputStream {
        @Override
        public void write(int b) {
        }
    }
}
