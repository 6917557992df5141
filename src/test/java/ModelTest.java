import java.nio.charset.StandardCharsets;
import java.util.ArrayList;
import java.util.List;
import java.util.Random;

/** Drawn runs of calls (always the same ones), each asked of BookBarge and of the slow Model: all answers agree. */
public final class ModelTest {
    private static final int ANY_TILT = -1000000;

    private final Random random;
    private final BookBarge barge = new BookBarge();
    private final Model model = new Model();
    private final List<String> calls = new ArrayList<>();
    private String wrong = null;

    private ModelTest(long seed) {
        random = new Random(seed);
    }

    public static void main(String[] args) {
        int runs = args.length > 0 ? Integer.parseInt(args[0]) : 1500;
        int first = args.length > 1 ? Integer.parseInt(args[1]) : 1;
        int bad = 0;
        for (int seed = first; seed < first + runs && bad < 3; seed++) {
            ModelTest test = new ModelTest(seed);
            test.go();
            if (test.wrong != null) {
                bad++;
                System.out.println("run " + seed + ": " + test.wrong);
                for (String call : test.calls) System.out.println("    " + call);
            }
        }
        System.out.println(runs + " drawn runs, " + bad + " wrong");
        if (bad != 0) System.exit(1);
    }

    private int pick(int least, int most) {
        return least + random.nextInt(most - least + 1);
    }

    private boolean chance(int percent) {
        return random.nextInt(100) < percent;
    }

    private void same(String call, int got, int want) {
        calls.add(call + " = " + want);
        if (got != want && wrong == null) wrong = call + " answered " + got + ", the model " + want;
    }

    private void tell(String text) {
        byte[] bytes = text.getBytes(StandardCharsets.ISO_8859_1);
        int[] w = new int[5];
        calls.add("text: " + text);
        int had = model.count(13);
        for (int i = 0; i < bytes.length; i += 20) {
            for (int k = 0; k < 5; k++) {
                w[k] = 0;
                for (int j = 0; j < 4; j++) {
                    int at = i + k * 4 + j;
                    w[k] = w[k] << 8 | (at < bytes.length ? bytes[at] & 255 : 0);
                }
            }
            same("feed", barge.feed(w[0], w[1], w[2], w[3], w[4]), model.feed(w[0], w[1], w[2], w[3], w[4]));
        }
        int n = had + bytes.length;
        same("end " + n, barge.end(n), model.end(n));
    }

    // ---- drawn texts

    private String gap() {
        return chance(80) ? " " : chance(50) ? "  " : "   ";
    }

    /** A river whose depths are about what its barges need, so that passing hangs on a book or two. */
    private String riverText() {
        StringBuilder t = new StringBuilder();
        int barges = chance(40) ? 1 : 2;
        int[] shelves = new int[2];
        int[] stone = new int[2];
        int[] load = new int[2];
        for (int b = 0; b < barges; b++) {
            shelves[b] = pick(1, chance(70) ? 4 : 8);
            load[b] = chance(70) ? pick(0, 30) : pick(0, 9999);
            stone[b] = pick(1, chance(80) ? 9 : 99);
            t.append(b > 0 ? ";barge " : "barge ").append(shelves[b]).append(gap()).append(load[b]).append(' ')
                .append(stone[b]).append(' ').append(pick(1, chance(70) ? 20 : 200));
        }
        int books = chance(10) ? 12 : pick(0, 9);
        int stops = pick(1, chance(80) ? 4 : 8);
        int readers = pick(0, chance(70) ? 3 : 6);
        int holes = pick(0, 3);
        boolean isWorthAlike = chance(50);
        StringBuilder told = new StringBuilder();
        for (int b = 0; b < books; b++) {
            int on = random.nextInt(barges);
            int weight = pick(1, chance(20) ? 2 : chance(70) ? 15 : 99);
            load[on] += weight;
            told.append(";book ").append(weight).append(gap()).append(pick(0, isWorthAlike ? 2 : 99)).append(' ')
                .append(on).append(' ').append(random.nextInt(shelves[on]));
        }
        for (int k = 0; k < stops; k++) {
            t.append(";stop");
            int depths = chance(60) ? 1 : pick(1, 4);
            for (int d = 0; d < depths; d++) {
                int on = random.nextInt(barges);
                int full = Math.min(700, load[on] / stone[on] + 1);
                t.append(' ').append(pick(Math.max(1, full / 2), full * 5 / 4 + 2));
            }
        }
        t.append(told);
        for (int r = 0; r < readers; r++) {
            t.append(";reader ").append(random.nextInt(stops)).append(' ').append(pick(0, 9)).append(' ')
                .append(pick(1, chance(80) ? 3 : 99));
        }
        for (int h = 0; h < holes; h++) {
            t.append(";hole ").append(random.nextInt(barges)).append(' ').append(pick(1, chance(80) ? 8 : 99));
        }
        for (int w = 0; w < 12 && readers > 0 && books > 0 && t.length() < 380; w++) {
            t.append(";wish ").append(random.nextInt(readers)).append(' ').append(random.nextInt(books)).append(' ')
                .append(pick(1, chance(50) ? 4 : 99));
        }
        return t.length() > 400 ? t.substring(0, t.lastIndexOf(";", 400)) : t.toString();
    }

    private String value() {
        if (chance(45)) return String.valueOf(chance(80) ? pick(0, 20) : pick(0, 99999));
        return Model.WORDS.get(random.nextInt(Model.WORDS.size()));
    }

    private String sum() {
        StringBuilder t = new StringBuilder(value());
        for (int i = 0; i < 4 && chance(40); i++) {
            t.append(chance(50) ? " " : "").append("+-*/".charAt(random.nextInt(4))).append(value());
        }
        return t.toString();
    }

    private String fact(int depth) {
        if (depth < 12 && chance(15)) return "not " + fact(depth + 1);
        if (depth < 12 && chance(15)) return "[" + test(depth + 1) + "]";
        String[] signs = {"<", "<=", "=", ">=", ">"};
        return sum() + " " + signs[random.nextInt(5)] + " " + sum();
    }

    private String test(int depth) {
        StringBuilder t = new StringBuilder(fact(depth));
        for (int i = 0; i < 4 && chance(25); i++) t.append(chance(50) ? " and " : " or ").append(fact(depth));
        return t.toString();
    }

    private String ruleText() {
        StringBuilder t = new StringBuilder();
        int clauses = chance(5) ? pick(11, 14) : pick(1, 5);
        for (int c = 0; c < clauses; c++) {
            if (c > 0) t.append(chance(50) ? ";" : " ; ");
            int kind = pick(0, 3);
            if (kind < 2) t.append("lend ").append(sum()).append(chance(40) ? " if " + test(0) : "");
            if (kind == 2) t.append("fetch ").append(test(0));
            if (kind == 3) t.append("shift ").append(pick(0, chance(90) ? 5 : 8)).append(" if ").append(test(0));
        }
        return t.length() > 400 ? t.substring(0, 400) : t.toString();
    }

    /** A text with one thing wrong, most likely. */
    private String spoilt(String text) {
        StringBuilder t = new StringBuilder(text);
        int at = t.length() == 0 ? 0 : random.nextInt(t.length());
        String bytes = " ;[]<>=+-*/0123456789abdefiklnorst" + (char) 233 + (char) 0 + "B\t";
        switch (pick(0, 5)) {
            case 0: t.setLength(at); break;
            case 1: if (t.length() > 0) t.deleteCharAt(at); break;
            case 2: t.insert(at, bytes.charAt(random.nextInt(bytes.length()))); break;
            case 3: if (t.length() > 0) t.setCharAt(at, bytes.charAt(random.nextInt(bytes.length()))); break;
            case 4: {
                String deep = "not ".repeat(pick(8, 11));
                int test = Math.max(t.indexOf("fetch ") + 6, t.indexOf(" if ") + 4);
                t.insert(chance(50) || test > t.length() ? at : test, chance(30) ? "000001" : chance(50) ? deep : "[".repeat(11));
                break;
            }
            default: {
                String[] parts = {";stop 9", ";hole 0 1", ";barge 1 1 1 1", ";reader 0 0 1", ";book 1 1 0 0", " 5", ";",
                    ";wish 0 0 1", "[", "]", " and 1 = 1", " or", " if 1<2", ";lend 1", ";fetch 1=1", "+1+1+1+1+1+1"};
                for (int i = pick(1, 9); i > 0; i--) t.append(parts[random.nextInt(parts.length)]);
            }
        }
        return t.length() > 400 ? t.substring(0, 400) : t.toString();
    }

    // ---- drawn calls

    private void go() {
        for (int i = 0; i < 4 && chance(30); i++) {
            tell(spoilt(chance(50) ? riverText() : ruleText()));
            if (chance(50)) same("river", barge.river(), model.river());
            else same("rule", barge.rule(), model.rule());
            same("count 13", barge.count(13), model.count(13));
        }
        if (chance(95)) {
            tell(riverText());
            same("river", barge.river(), model.river());
        }
        for (int i = pick(0, 3); i > 0; i--) {
            tell(ruleText());
            same("rule", barge.rule(), model.rule());
        }
        look();
        for (int i = pick(5, 60); i > 0 && wrong == null; i--) {
            if (chance(5)) meet();
            else if (chance(55)) act();
            else ask();
            if (chance(20)) look();
        }
        look();
    }

    private int some(int many) {
        return chance(93) && many > 0 ? random.nextInt(many) : pick(-1, many + 1);
    }

    private int aBarge() {
        return some(model.count(0));
    }

    private int aBook() {
        return some(model.count(1));
    }

    private int aStop() {
        return some(model.count(2));
    }

    private int aReader() {
        return some(model.count(3));
    }

    private void act() {
        int a = aBarge(), b = aBook(), r = aReader(), k = some(5), h = some(model.count(4));
        switch (pick(0, 17)) {
            case 0: same("leave " + b, barge.leave(b), model.leave(b)); break;
            case 1:
            case 2: same("lend " + b + " " + r, barge.lend(b, r), model.lend(b, r)); break;
            case 3:
            case 4: same("fetch " + b + " " + a + " " + k, barge.fetch(b, a, k), model.fetch(b, a, k)); break;
            case 5: same("shift " + b + " " + k, barge.shift(b, k), model.shift(b, k)); break;
            case 6: same("hand " + b + " " + k, barge.hand(b, k), model.hand(b, k)); break;
            case 7:
            case 8: {
                boolean isOn = chance(a == 1 ? 30 : 70);
                same("sail " + a + " " + isOn, barge.sail(a, isOn), model.sail(a, isOn));
                break;
            }
            case 9: {
                for (int n = chance(20) ? pick(1, 95) : 1; n > 0; n--) same("night", barge.night(), model.night());
                break;
            }
            case 10: same("rain", barge.rain(), model.rain()); break;
            case 11: same("pump " + a, barge.pump(a), model.pump(a)); break;
            case 12: same("plug " + h + " " + b, barge.plug(h, b), model.plug(h, b)); break;
            case 13: same("undo", barge.undo(), model.undo()); break;
            case 14: {
                int rule = some(model.count(5)), n = chance(90) ? pick(1, 4) : pick(-1, 9);
                same("run " + rule + " " + a + " " + n, barge.run(rule, a, n), model.run(rule, a, n));
                break;
            }
            case 15: same("image " + k, barge.image(k), model.image(k)); break;
            case 16: if (chance(40)) same("back " + k, barge.back(k), model.back(k)); break;
            default: {
                int x = chance(80) ? random.nextInt() : pick(-1, 3);
                same("seed " + x, barge.seed(x), model.seed(x));
            }
        }
    }

    /** The barges sail towards each other, as far as they can. */
    private void meet() {
        for (int i = 0; i < 8 && model.count(0) == 2; i++) {
            int a = random.nextInt(2);
            boolean isOn = model.lies(a, 4) < model.lies(1 - a, 4);
            if (model.meeting() != Model.NONE) break;
            same("sail " + a + " " + isOn, barge.sail(a, isOn), model.sail(a, isOn));
        }
        same("meeting", barge.meeting(), model.meeting());
    }

    private void ask() {
        int a = aBarge(), k = aStop(), r = aReader(), w = chance(95) ? pick(0, 7) : pick(-1, 8);
        switch (pick(0, 7)) {
            case 0: w = some(2); same("left " + a + " " + k + " " + w, barge.left(a, k, w), model.left(a, k, w)); break;
            case 1: same("lending " + a + " " + k + " " + w, barge.lending(a, k, w), model.lending(a, k, w)); break;
            case 2: same("dear " + a + " " + k + " " + r, barge.dear(a, k, r), model.dear(a, k, r)); break;
            case 3: same("room " + a + " " + w, barge.room(a, w), model.room(a, w)); break;
            case 4: same("meeting", barge.meeting(), model.meeting()); break;
            case 5: {
                int d = chance(70) ? Math.max(0, model.lies(a, 2)) + pick(-2, 2) : pick(-1, 30);
                int t = chance(60) ? ANY_TILT : model.lies(a, 1) + (chance(50) ? 0 : pick(-3, 3));
                w = some(3);
                same("aboard " + a + " " + d + " " + t + " " + w, barge.aboard(a, d, t, w), model.aboard(a, d, t, w));
                break;
            }
            case 6: w = some(5); same("plugs " + a + " " + w, barge.plugs(a, w), model.plugs(a, w)); break;
            default: {
                int rule = some(model.count(5)), m = chance(95) ? pick(1, 20) : pick(0, 21);
                int n = chance(95) ? pick(1, 8) : pick(0, 9), p = chance(95) ? pick(0, 100) : pick(-1, 101);
                w = some(3);
                same("voyages " + rule + " " + a + " " + m + " " + n + " " + p + " " + w,
                    barge.voyages(rule, a, m, n, p, w), model.voyages(rule, a, m, n, p, w));
            }
        }
    }

    /** Everything that can be seen. */
    private void look() {
        int had = calls.size();
        for (int w = -1; w <= 14; w++) same("count " + w, barge.count(w), model.count(w));
        for (int b = -1; b <= 12; b++) {
            for (int w = -1; w <= 7; w++) same("book " + b + " " + w, barge.book(b, w), model.book(b, w));
            for (int r = -1; r <= 6; r++) same("wish " + r + " " + b, barge.wish(r, b), model.wish(r, b));
        }
        for (int k = -1; k <= 8; k++) {
            for (int w = -1; w <= 5; w++) same("stop " + k + " " + w, barge.stop(k, w), model.stop(k, w));
        }
        for (int r = -1; r <= 6; r++) {
            for (int w = -1; w <= 5; w++) same("reader " + r + " " + w, barge.reader(r, w), model.reader(r, w));
        }
        for (int h = -1; h <= 4; h++) {
            for (int w = -1; w <= 3; w++) same("hole " + h + " " + w, barge.hole(h, w), model.hole(h, w));
        }
        for (int a = -1; a <= 2; a++) {
            for (int w = -1; w <= 7; w++) same("lies " + a + " " + w, barge.lies(a, w), model.lies(a, w));
        }
        while (calls.size() > had) calls.remove(calls.size() - 1);
        calls.add("(look)");
    }
}
