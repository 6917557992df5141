import java.lang.reflect.InvocationTargetException;
import java.lang.reflect.Method;
import java.nio.ByteBuffer;
import java.nio.charset.StandardCharsets;
import java.util.ArrayList;
import java.util.Arrays;
import java.util.Comparator;
import java.util.List;
import java.util.Random;

/** Every call with arguments from the ends of what an int can be: none throws, and all answer as the model does. */
public final class ExtremesTest {
    private static final int[] ENDS = {Integer.MIN_VALUE, Integer.MIN_VALUE + 1, -1000000, -2, -1, 0, 0, 0, 1, 1, 2, 3, 4, 5, 6,
        7, 8, 9, 11, 12, 20, 99, 100, 101, 200, 206, 300, 400, 9999, 10000, 65536, Integer.MAX_VALUE - 1, Integer.MAX_VALUE};

    private static final String[] RIVERS = {
        null,
        "barge 1 0 1 1;stop 1",
        "barge 3 10 5 4;barge 2 0 10 9;book 8 5 0 0;book 6 9 0 2;book 3 1 0 1;book 7 2 1 0;stop 9;stop 4 6;stop 7;"
            + "reader 1 2 3;wish 0 1 20;wish 0 2 5;hole 0 5",
        "barge 8 0 9 99;barge 8 9999 99 9" + ";book 9 1 0 7".repeat(12) + ";stop 99".repeat(8) + ";reader 0 9 1".repeat(6)
            + ";hole 1 9".repeat(4)
    };

    private static int wrong = 0;

    public static void main(String[] args) throws ReflectiveOperationException {
        List<Method> methods = new ArrayList<>();
        for (Method m : BookBarge.class.getDeclaredMethods()) {
            if (java.lang.reflect.Modifier.isPublic(m.getModifiers())) methods.add(m);
        }
        methods.sort(Comparator.comparing(Method::getName));
        for (int seed = 0; seed < 200; seed++) run(methods, new Random(seed), RIVERS[seed % RIVERS.length]);
        System.out.println("200 runs of calls at the ends, " + wrong + " answers wrong");
        if (wrong != 0) System.exit(1);
    }

    private static void run(List<Method> methods, Random random, String river) throws ReflectiveOperationException {
        BookBarge barge = new BookBarge();
        Model model = new Model();
        if (river != null) {
            feed(barge, model, river);
            same("river", barge.river(), model.river());
        }
        for (int i = random.nextInt(3); i > 0; i--) {
            feed(barge, model, "fetch 1=1;shift 1 if day<draught*9;lend wish/damp-99999*99999*worth*weight*water");
            same("rule", barge.rule(), model.rule());
        }
        for (int i = 0; i < 400; i++) {
            Method m = methods.get(random.nextInt(methods.size()));
            Object[] with = new Object[m.getParameterCount()];
            for (int k = 0; k < with.length; k++) {
                boolean isInt = m.getParameterTypes()[k] == int.class;
                with[k] = isInt ? (Object) ENDS[random.nextInt(ENDS.length)] : (Object) random.nextBoolean();
            }
            Method due = Model.class.getDeclaredMethod(m.getName(), m.getParameterTypes());
            try {
                same(m.getName() + Arrays.toString(with), (int) m.invoke(barge, with), (int) due.invoke(model, with));
            } catch (InvocationTargetException thrown) {
                wrong++;
                System.out.println(m.getName() + Arrays.toString(with) + " threw " + thrown.getCause());
            }
        }
    }

    private static void feed(BookBarge barge, Model model, String text) {
        byte[] bytes = text.getBytes(StandardCharsets.ISO_8859_1);
        ByteBuffer all = ByteBuffer.wrap(Arrays.copyOf(bytes, (bytes.length + 19) / 20 * 20));
        while (all.hasRemaining()) {
            int a = all.getInt(), b = all.getInt(), c = all.getInt(), d = all.getInt(), e = all.getInt();
            same("feed", barge.feed(a, b, c, d, e), model.feed(a, b, c, d, e));
        }
        same("end", barge.end(bytes.length), model.end(bytes.length));
    }

    private static void same(String call, int got, int want) {
        if (got != want) {
            wrong++;
            System.out.println(call + " answered " + got + ", the model " + want);
        }
    }
}
