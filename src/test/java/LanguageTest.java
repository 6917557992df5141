import java.io.IOException;
import java.lang.reflect.Constructor;
import java.lang.reflect.Field;
import java.lang.reflect.Member;
import java.lang.reflect.Method;
import java.lang.reflect.Modifier;
import java.nio.file.Files;
import java.nio.file.Path;
import java.util.ArrayList;
import java.util.Arrays;
import java.util.List;
import java.util.Set;
import java.util.TreeSet;
import java.util.regex.Matcher;
import java.util.regex.Pattern;

/** The document's face, and those rules of LANGUAGE.md that can be seen from the source or the classes. */
public final class LanguageTest {
    private static final Path SOURCE = Path.of("src/main/java/BookBarge.java");

    private static final String[] FACE = {
        "feed(int,int,int,int,int)", "end(int)", "river()", "rule()", "book(int,int)", "stop(int,int)",
        "reader(int,int)", "wish(int,int)", "lies(int,int)", "leave(int)", "lend(int,int)", "fetch(int,int,int)",
        "shift(int,int)", "hand(int,int)", "sail(int,boolean)", "night()", "rain()", "pump(int)", "plug(int,int)",
        "hole(int,int)", "undo()", "run(int,int,int)", "left(int,int,int)", "lending(int,int,int)",
        "dear(int,int,int)", "room(int,int)", "meeting()", "aboard(int,int,int,int)", "plugs(int,int)", "seed(int)",
        "voyages(int,int,int,int,int,int)", "count(int)", "image(int)", "back(int)"
    };

    private static final String[] FORBIDDEN = {
        "throw", "throws", "try", "catch", "finally", "synchronized", "assert", "volatile", "native", "Object",
        "hashCode", "toString", "record", "enum", "instanceof", "Random", "Thread", "nanoTime", "currentTimeMillis",
        "getClass", "var", "protected", "package", "MAX_VALUE", "MIN_VALUE"
    };

    private static int wrong = 0;

    public static void main(String[] args) throws IOException {
        face();
        classes();
        source(bare(Files.readString(SOURCE)));
        room();
        System.out.println(wrong == 0 ? "the language is kept to" : wrong + " rules are broken");
        if (wrong != 0) System.exit(1);
    }

    private static void must(boolean holds, String what) {
        if (!holds) {
            wrong++;
            System.out.println("broken: " + what);
        }
    }

    private static String signature(Method m) {
        List<String> types = new ArrayList<>();
        for (Class<?> type : m.getParameterTypes()) types.add(type.getName());
        return m.getName() + "(" + String.join(",", types) + ")";
    }

    private static boolean isOpen(Member member) {
        return !Modifier.isPrivate(member.getModifiers());
    }

    private static void face() {
        Set<String> seen = new TreeSet<>();
        for (Method m : BookBarge.class.getDeclaredMethods()) {
            if (!isOpen(m)) continue;
            must(Modifier.isPublic(m.getModifiers()) && m.getReturnType() == int.class, "public int " + m.getName());
            seen.add(signature(m));
        }
        must(seen.equals(new TreeSet<>(Arrays.asList(FACE))), "the face is the document's: " + seen);
        for (Field f : BookBarge.class.getDeclaredFields()) {
            must(!isOpen(f) || f.getName().equals("NONE"), "no open field " + f.getName());
        }
        Constructor<?>[] made = BookBarge.class.getDeclaredConstructors();
        must(made.length == 1 && made[0].getParameterCount() == 0 && isOpen(made[0]), "one constructor");
        must(Modifier.isFinal(BookBarge.class.getModifiers()), "the class is final");
    }

    private static void classes() {
        Set<String> names = new TreeSet<>();
        for (String one : FACE) names.add(one.substring(0, one.indexOf('(')));
        Class<?>[] inside = BookBarge.class.getDeclaredClasses();
        must(inside.length <= 12, "at most some twelve classes");
        for (Class<?> c : inside) {
            must(Modifier.isStatic(c.getModifiers()) && !Modifier.isPublic(c.getModifiers()), c + " is static, not public");
            for (Method m : c.getDeclaredMethods()) {
                must(!names.contains(m.getName()), "no name of the face: " + m);
                must(m.getParameterCount() <= 7, "at most seven parameters: " + m);
            }
            checkFields(c);
        }
        checkFields(BookBarge.class);
    }

    private static void checkFields(Class<?> c) {
        int fields = 0;
        for (Field f : c.getDeclaredFields()) {
            if (Modifier.isStatic(f.getModifiers())) {
                must(Modifier.isFinal(f.getModifiers()), "static fields are final: " + f);
            } else {
                fields++;
            }
        }
        must(fields <= 20, "at most some twenty fields: " + c);
    }

    /** The source without comments and texts. */
    private static String bare(String source) {
        String code = source.replaceAll("(?s)/\\*.*?\\*/", "").replaceAll("//[^\n]*", "");
        return code.replaceAll("\"[^\"\n]*\"", "\"\"").replaceAll("'[^'\n]'", "' '");
    }

    private static void source(String code) {
        for (String word : FORBIDDEN) {
            must(!Pattern.compile("\\b" + word + "\\b").matcher(code).find(), "the word " + word + " stands there");
        }
        must(!code.contains("->") && !code.contains("::"), "no lambda, no method reference");
        must(!Pattern.compile("\"\"\\s*\\+|\\+\\s*\"\"").matcher(code).find(), "no texts joined by +");
        Matcher imports = Pattern.compile("import ([^;]*);").matcher(code);
        while (imports.find()) must(imports.group(1).equals("java.util.Arrays"), "import " + imports.group(1));
        Matcher calls = Pattern.compile("\\b(System|Math|Arrays|Integer|Long|Character|String)\\.(\\w+)").matcher(code);
        Set<String> allowed = Set.of("System.arraycopy", "Math.min", "Math.max", "Math.abs", "Arrays.fill", "Arrays.copyOf");
        while (calls.find()) must(allowed.contains(calls.group()), "the library's " + calls.group());
        for (char c : code.toCharArray()) must(c < 127, "signs of the source are 1 to 127");
        shortMethods(code.split("\n"));
    }

    private static void shortMethods(String[] lines) {
        int start = -1;
        String end = null;
        for (int i = 0; i < lines.length; i++) {
            Matcher head = Pattern.compile("^( {4}| {8})(?=\\S)[\\w\\[\\] ]+\\(.*\\{$").matcher(lines[i]);
            if (start < 0 && head.find()) {
                start = i;
                end = head.group(1) + "}";
            } else if (start >= 0 && lines[i].equals(end)) {
                must(i - start < 60, "a method stays short: " + lines[start].trim());
                start = -1;
            }
        }
    }

    /** A run's room is shared: 512 of any call may make next to nothing. */
    private static void room() {
        com.sun.management.ThreadMXBean bean =
            (com.sun.management.ThreadMXBean) java.lang.management.ManagementFactory.getThreadMXBean();
        long thread = Thread.currentThread().getId();
        exercise(new BookBarge());
        long before = bean.getThreadAllocatedBytes(thread);
        BookBarge x = new BookBarge();
        long made = bean.getThreadAllocatedBytes(thread) - before;
        must(made < 60000, "a new object takes " + made + " bytes");
        before = bean.getThreadAllocatedBytes(thread);
        exercise(x);
        made = bean.getThreadAllocatedBytes(thread) - before;
        must(made < 20000, "a run of calls takes " + made + " bytes");
    }

    private static void exercise(BookBarge x) {
        x.feed(0x62617267, 0x65203120, 0x31203120, 0x313b7374, 0x6f702039);
        x.feed(0x3b737470, 0, 0, 0, 0);
        x.river();
        x.feed(0x62617267, 0x65203120, 0x31203120, 0x313b7374, 0x6f702039);
        x.river();
        for (int i = 0; i < 8; i++) {
            x.feed(0x6c656e64, 0x20312020, 0x20202020, 0x20202020, 0x20202020);
            x.rule();
            x.end(0);
        }
        for (int i = 0; i < 30; i++) {
            x.night();
            x.lending(0, 0, 1);
            x.dear(0, 0, 0);
            x.aboard(0, 1, 0, 0);
            x.plugs(0, 0);
            x.meeting();
            x.voyages(0, 0, 20, 8, 50, 0);
            x.run(0, 0, 8);
            x.image(i & 3);
            x.back(i & 3);
            x.undo();
        }
    }
}
