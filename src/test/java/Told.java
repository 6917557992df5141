import java.lang.reflect.InvocationTargetException;
import java.lang.reflect.Method;
import java.nio.charset.StandardCharsets;
import java.util.ArrayList;
import java.util.Arrays;
import java.util.List;

/**
 * A BookBarge whose calls are kept, so that a twin of it can be made by the same calls; and all that can be found out
 * of one. The calls go by their names: a boolean is told as 0 or 1.
 */
final class Told {
    private static final Method[] FACE = BookBarge.class.getMethods();

    private final BookBarge barge = new BookBarge();
    private final List<String> names = new ArrayList<>();
    private final List<int[]> arguments = new ArrayList<>();

    static String label(String name, int... with) {
        String row = Arrays.toString(with);
        return name + "(" + row.substring(1, row.length() - 1) + ")";
    }

    int call(String name, int... with) {
        names.add(name);
        arguments.add(with);
        return ask(name, with);
    }

    private int ask(String name, int... with) {
        for (Method method : FACE) {
            if (method.getName().equals(name) && method.getReturnType() == int.class) return invoke(method, with);
        }
        throw new IllegalArgumentException("no call " + name);
    }

    private int invoke(Method method, int[] with) {
        Class<?>[] types = method.getParameterTypes();
        Object[] boxed = new Object[with.length];
        for (int i = 0; i < with.length; i++) {
            boxed[i] = types[i] == boolean.class ? (Object) (with[i] == 1) : (Object) with[i];
        }
        try {
            return (int) method.invoke(barge, boxed);
        } catch (InvocationTargetException | IllegalAccessException thrown) {
            throw new IllegalStateException(label(method.getName(), with) + " threw", thrown.getCause());
        }
    }

    /** How many calls were made and kept. */
    int calls() {
        return names.size();
    }

    Told twin() {
        Told other = new Told();
        for (int i = 0; i < names.size(); i++) other.call(names.get(i), arguments.get(i));
        return other;
    }

    /** A text behind what the TAPE has; it must have room for whole twenties of bytes. */
    void tape(String text) {
        int had = ask("count", 13);
        byte[] bytes = text.getBytes(StandardCharsets.ISO_8859_1);
        byte[] twenties = Arrays.copyOf(bytes, (bytes.length + 19) / 20 * 20);
        java.nio.ByteBuffer all = java.nio.ByteBuffer.wrap(twenties);
        while (all.hasRemaining()) {
            call("feed", all.getInt(), all.getInt(), all.getInt(), all.getInt(), all.getInt());
        }
        if (call("end", had + bytes.length) != had + bytes.length) throw new IllegalArgumentException("too long: " + text);
    }

    int river(String text) {
        call("end", 0);
        tape(text);
        return call("river");
    }

    int rule(String text) {
        call("end", 0);
        tape(text);
        return call("rule");
    }

    /** All that the looking calls tell. */
    List<Integer> seen() {
        List<Integer> all = new ArrayList<>();
        for (int what = 0; what <= 13; what++) all.add(barge.count(what));
        for (int book = 0; book < barge.count(1); book++) {
            for (int what = 0; what <= 6; what++) all.add(barge.book(book, what));
            for (int reader = 0; reader < barge.count(3); reader++) all.add(barge.wish(reader, book));
        }
        for (int stop = 0; stop < barge.count(2); stop++) {
            for (int what = 0; what <= 4; what++) all.add(barge.stop(stop, what));
        }
        for (int reader = 0; reader < barge.count(3); reader++) {
            for (int what = 0; what <= 4; what++) all.add(barge.reader(reader, what));
        }
        for (int hole = 0; hole < barge.count(4); hole++) {
            for (int what = 0; what <= 2; what++) all.add(barge.hole(hole, what));
        }
        for (int one = 0; one < barge.count(0); one++) {
            for (int what = 0; what <= 6; what++) all.add(barge.lies(one, what));
        }
        return all;
    }

    /**
     * All that can be found out: also what the RULES do, what each ACT undone and each IMAGE gives back, and how the TAPE
     * reads. The object is spent then. (It takes more than 512 calls; the class does not count them.)
     */
    List<Integer> foundOut() {
        List<Integer> all = seen();
        for (int rule = 0; rule < 6; rule++) {
            for (int what = 0; what <= 2; what++) {
                for (int one = 0; one < 2; one++) all.add(barge.voyages(rule, one, 3, 8, 50, what));
            }
        }
        for (int i = 0; i <= 20; i++) {
            all.add(barge.undo());
            all.addAll(seen());
        }
        for (int k = 0; k < 4; k++) {
            all.add(barge.back(k));
            all.addAll(seen());
        }
        all.add(barge.rule());
        all.add(barge.river());
        all.addAll(seen());
        return all;
    }
}
