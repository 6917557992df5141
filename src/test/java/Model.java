import java.util.ArrayDeque;
import java.util.ArrayList;
import java.util.Arrays;
import java.util.Deque;
import java.util.List;

/**
 * The document once more, written the slow way: every question is answered by trying all there is on copies of the
 * state, with the ACTS themselves. ModelTest holds it against BookBarge.
 */
final class Model {
    static final int NONE = -1;

    /** A FAULT of a text, thrown where it is found. */
    static final class Fault extends RuntimeException {
        private static final long serialVersionUID = 1;

        final int number;

        Fault(int place, int kind) {
            number = 1 + 8 * place + kind;
        }
    }

    static final class Barge {
        int shelves, weight, stone, lean, at, water, earned;

        Barge copy() {
            Barge b = new Barge();
            b.shelves = shelves;
            b.weight = weight;
            b.stone = stone;
            b.lean = lean;
            b.at = at;
            b.water = water;
            b.earned = earned;
            return b;
        }
    }

    static final class Book {
        int weight, worth, shelf, damp, where, loans, due = NONE;

        Book copy() {
            Book b = new Book();
            b.weight = weight;
            b.worth = worth;
            b.shelf = shelf;
            b.damp = damp;
            b.where = where;
            b.loans = loans;
            b.due = due;
            return b;
        }
    }

    static final class Reader {
        int stop, thumb, days, served;
        int[] wish = new int[12];

        Reader copy() {
            Reader r = new Reader();
            r.stop = stop;
            r.thumb = thumb;
            r.days = days;
            r.served = served;
            r.wish = wish.clone();
            return r;
        }
    }

    static final class Hole {
        int barge, water;
        boolean stopped;

        Hole copy() {
            Hole h = new Hole();
            h.barge = barge;
            h.water = water;
            h.stopped = stopped;
            return h;
        }
    }

    static final class State {
        int day;
        List<Barge> barges = new ArrayList<>();
        List<Book> books = new ArrayList<>();
        List<List<Integer>> stops = new ArrayList<>();
        List<Reader> readers = new ArrayList<>();
        List<Hole> holes = new ArrayList<>();

        State copy() {
            State s = new State();
            s.day = day;
            s.stops = stops;
            for (Barge b : barges) s.barges.add(b.copy());
            for (Book b : books) s.books.add(b.copy());
            for (Reader r : readers) s.readers.add(r.copy());
            for (Hole h : holes) s.holes.add(h.copy());
            return s;
        }

        int depth(int stop) {
            List<Integer> told = stops.get(stop);
            int season = day / 90 % 4;
            return season < told.size() ? told.get(season) : told.get(told.size() - 1);
        }

        int load(int barge) {
            int sum = barges.get(barge).weight + barges.get(barge).water;
            for (Book b : books) if (b.where == 100 + barge) sum += b.weight + b.damp;
            return sum;
        }

        int tilt(int barge) {
            int sum = 0;
            for (Book b : books) {
                if (b.where == 100 + barge) sum += (b.weight + b.damp) * (2 * b.shelf - barges.get(barge).shelves + 1);
            }
            return sum;
        }

        int draught(int barge) {
            Barge b = barges.get(barge);
            int load = load(barge);
            int inches = load / b.stone;
            if (load % b.stone != 0) inches++;
            return inches + Math.abs(tilt(barge)) / b.lean;
        }

        boolean passes(int barge, int stop) {
            return depth(stop) >= draught(barge);
        }

        int bookOf(int reader) {
            for (int b = 0; b < books.size(); b++) if (books.get(b).where == 200 + reader) return b;
            return NONE;
        }

        boolean isAboard(int book, int barge) {
            return books.get(book).where == 100 + barge;
        }

        boolean fetchable(int book, int barge) {
            Book b = books.get(book);
            int stop = barges.get(barge).at;
            if (b.where == stop) return true;
            if (b.where < 200 || b.where >= 300) return false;
            return readers.get(b.where - 200).stop == stop && day >= b.due;
        }

        void lend(int book, int reader, int barge) {
            Book b = books.get(book);
            Reader r = readers.get(reader);
            barges.get(barge).earned += r.wish[book];
            b.where = 200 + reader;
            b.due = day + r.days;
            b.loans++;
            r.served++;
        }

        void fetch(int book, int barge, int shelf) {
            Book b = books.get(book);
            if (b.where >= 200) b.damp = Math.min(9, b.damp + readers.get(b.where - 200).thumb);
            b.due = NONE;
            b.where = 100 + barge;
            b.shelf = shelf;
        }

        void night() {
            if (day < 9999) day++;
            for (Hole h : holes) {
                Barge b = barges.get(h.barge);
                if (!h.stopped) b.water = Math.min(9999, b.water + h.water);
            }
        }

        int rain() {
            int n = 0;
            for (Book b : books) {
                if ((b.where == 100 || b.where == 101) && b.damp < 9) {
                    b.damp++;
                    n++;
                }
            }
            return n;
        }

        int greatestWisher(int book, int stop) {
            int best = NONE;
            for (int r = 0; r < readers.size(); r++) {
                if (readers.get(r).stop != stop || bookOf(r) != NONE || readers.get(r).wish[book] == 0) continue;
                if (best == NONE || readers.get(r).wish[book] > readers.get(best).wish[book]) best = r;
            }
            return best;
        }
    }

    // ---- texts

    /** A text that is read from left to right. */
    static final class Text {
        final byte[] bytes;
        int at = 0;

        Text(byte[] bytes) {
            this.bytes = bytes;
        }

        void blanks() {
            while (at < bytes.length && bytes[at] == 32) at++;
        }

        int peek() {
            blanks();
            return at < bytes.length ? bytes[at] & 255 : NONE;
        }

        boolean digitNext() {
            int c = peek();
            return c >= '0' && c <= '9';
        }

        String wordNext() {
            blanks();
            int end = at;
            while (end < bytes.length && bytes[end] >= 'a' && bytes[end] <= 'z') end++;
            return new String(bytes, at, end - at);
        }

        boolean take(String word) {
            if (!wordNext().equals(word)) return false;
            at += word.length();
            return true;
        }

        boolean takeByte(char c) {
            if (peek() != c) return false;
            at++;
            return true;
        }

        int number(int least, int most) {
            if (!digitNext()) throw new Fault(at, 0);
            int first = at;
            while (at < bytes.length && bytes[at] >= '0' && bytes[at] <= '9') at++;
            String digits = new String(bytes, first, at - first);
            if (digits.length() > 5) throw new Fault(first, 1);
            int n = Integer.parseInt(digits);
            if (n < least || n > most) throw new Fault(first, 1);
            return n;
        }

        void stray() {
            blanks();
            throw new Fault(at, 0);
        }
    }

    static State readRiver(byte[] bytes) {
        Text t = new Text(bytes);
        State s = new State();
        int clauses = 0;
        boolean others = false;
        do {
            String word = t.wordNext();
            int first = t.at;
            if (!List.of("barge", "book", "stop", "reader", "wish", "hole").contains(word)) t.stray();
            boolean tooMany = clauses == 40;
            if (word.equals("barge")) tooMany |= others || s.barges.size() == 2;
            else tooMany |= s.barges.isEmpty();
            if (word.equals("book")) tooMany |= s.books.size() == 12;
            if (word.equals("stop")) tooMany |= s.stops.size() == 8;
            if (word.equals("reader")) tooMany |= s.readers.size() == 6;
            if (word.equals("hole")) tooMany |= s.holes.size() == 4;
            if (tooMany) throw new Fault(first, 4);
            clauses++;
            t.take(word);
            others |= !word.equals("barge");
            readRiverClause(t, s, word);
        } while (t.takeByte(';'));
        if (t.peek() != NONE || s.stops.isEmpty()) t.stray();
        if (s.barges.size() == 2) s.barges.get(1).at = s.stops.size() - 1;
        return s;
    }

    private static void readRiverClause(Text t, State s, String word) {
        switch (word) {
            case "barge": {
                Barge b = new Barge();
                b.shelves = t.number(1, 8);
                b.weight = t.number(0, 9999);
                b.stone = t.number(1, 99);
                b.lean = t.number(1, 999);
                s.barges.add(b);
                break;
            }
            case "book": {
                Book b = new Book();
                b.weight = t.number(1, 99);
                b.worth = t.number(0, 99);
                int barge = t.number(0, s.barges.size() - 1);
                b.where = 100 + barge;
                b.shelf = t.number(0, s.barges.get(barge).shelves - 1);
                s.books.add(b);
                break;
            }
            case "stop": {
                List<Integer> depths = new ArrayList<>();
                depths.add(t.number(1, 999));
                while (depths.size() < 4 && t.digitNext()) depths.add(t.number(1, 999));
                s.stops.add(depths);
                break;
            }
            case "reader": {
                Reader r = new Reader();
                r.stop = t.number(0, s.stops.size() - 1);
                r.thumb = t.number(0, 9);
                r.days = t.number(1, 99);
                s.readers.add(r);
                break;
            }
            case "wish": {
                int reader = t.number(0, s.readers.size() - 1);
                int book = t.number(0, s.books.size() - 1);
                s.readers.get(reader).wish[book] = t.number(1, 99);
                break;
            }
            default: {
                Hole h = new Hole();
                h.barge = t.number(0, s.barges.size() - 1);
                h.water = t.number(1, 99);
                s.holes.add(h);
            }
        }
    }

    /** A tree of a RULE's text: op, and what it stands over. */
    static final class Node {
        final String op;
        final long number;
        final Node a, b;

        Node(String op, long number, Node a, Node b) {
            this.op = op;
            this.number = number;
            this.a = a;
            this.b = b;
        }
    }

    static final class Clause {
        String kind;
        int shelf;
        Node sum, test;
    }

    static final class RuleText {
        final Text t;
        int parts = 0;
        final List<Clause> clauses = new ArrayList<>();

        RuleText(byte[] bytes) {
            t = new Text(bytes);
        }

        List<Clause> read() {
            do {
                Clause c = new Clause();
                c.kind = t.wordNext();
                if (!List.of("lend", "fetch", "shift").contains(c.kind)) t.stray();
                if (clauses.size() == 12) throw new Fault(t.at, 4);
                t.take(c.kind);
                if (c.kind.equals("lend")) {
                    c.sum = sum();
                    if (t.take("if")) c.test = test(0);
                } else if (c.kind.equals("fetch")) {
                    c.test = test(0);
                } else {
                    c.shelf = t.number(0, 7);
                    if (!t.take("if")) t.stray();
                    c.test = test(0);
                }
                clauses.add(c);
            } while (t.takeByte(';'));
            if (t.peek() != NONE) t.stray();
            return clauses;
        }

        Node test(int depth) {
            Node n = part(depth);
            while (t.take("or")) n = new Node("or", 0, n, part(depth));
            return n;
        }

        Node part(int depth) {
            Node n = fact(depth);
            while (t.take("and")) n = new Node("and", 0, n, fact(depth));
            return n;
        }

        Node fact(int depth) {
            t.blanks();
            int first = t.at;
            if (t.take("not")) {
                if (depth == 10) throw new Fault(first, 2);
                return new Node("not", 0, fact(depth + 1), null);
            }
            if (t.takeByte('[')) {
                if (depth == 10) throw new Fault(first, 2);
                Node n = test(depth + 1);
                if (!t.takeByte(']')) t.stray();
                return n;
            }
            Node left = sum();
            t.blanks();
            int at = t.at;
            String rest = new String(t.bytes, at, t.bytes.length - at, java.nio.charset.StandardCharsets.ISO_8859_1);
            String sign = null;
            for (String s : List.of("<=", ">=", "<", "=", ">")) if (sign == null && rest.startsWith(s)) sign = s;
            if (sign == null) throw new Fault(at, 0);
            count(at);
            t.at += sign.length();
            return new Node(sign, 0, left, sum());
        }

        void count(int at) {
            parts++;
            if (parts > 60) throw new Fault(at, 3);
        }

        Node sum() {
            Node n = term();
            for (;;) {
                if (t.takeByte('+')) n = new Node("+", 0, n, term());
                else if (t.takeByte('-')) n = new Node("-", 0, n, term());
                else return n;
            }
        }

        Node term() {
            Node n = value();
            for (;;) {
                if (t.takeByte('*')) n = new Node("*", 0, n, value());
                else if (t.takeByte('/')) n = new Node("/", 0, n, value());
                else return n;
            }
        }

        Node value() {
            t.blanks();
            int first = t.at;
            if (t.digitNext()) {
                int n = t.number(0, 99999);
                count(first);
                return new Node("number", n, null, null);
            }
            String word = t.wordNext();
            if (!WORDS.contains(word)) t.stray();
            count(first);
            t.take(word);
            return new Node(word, 0, null, null);
        }
    }

    static final List<String> WORDS = List.of("book", "weight", "shelf", "worth", "damp", "wish", "stop", "depth",
        "draught", "water", "loans", "day");

    static long value(Node n, State s, int barge, int book) {
        Barge a = s.barges.get(barge);
        Book b = s.books.get(book);
        switch (n.op) {
            case "number": return n.number;
            case "book": return book;
            case "weight": return b.weight + b.damp;
            case "shelf": return b.shelf;
            case "worth": return b.worth;
            case "damp": return b.damp;
            case "wish": {
                int r = s.greatestWisher(book, a.at);
                return r == NONE ? 0 : s.readers.get(r).wish[book];
            }
            case "stop": return a.at;
            case "depth": return a.at + 1 < s.stops.size() ? s.depth(a.at + 1) : 0;
            case "draught": return s.draught(barge);
            case "water": return a.water;
            case "loans": return b.loans;
            case "day": return s.day;
            default:
        }
        long x = value(n.a, s, barge, book);
        long y = value(n.b, s, barge, book);
        switch (n.op) {
            case "+": return x + y;
            case "-": return x - y;
            case "*": return x * y;
            default: return y == 0 ? 0 : x / y;
        }
    }

    static boolean holds(Node n, State s, int barge, int book) {
        switch (n.op) {
            case "and": return holds(n.a, s, barge, book) && holds(n.b, s, barge, book);
            case "or": return holds(n.a, s, barge, book) || holds(n.b, s, barge, book);
            case "not": return !holds(n.a, s, barge, book);
            default:
        }
        int c = Long.compare(value(n.a, s, barge, book), value(n.b, s, barge, book));
        switch (n.op) {
            case "<": return c < 0;
            case "<=": return c <= 0;
            case "=": return c == 0;
            case ">=": return c >= 0;
            default: return c > 0;
        }
    }

    // ---- the object

    private byte[] tape = new byte[0];
    private State s = new State();
    private int x = 0;
    private final List<List<Clause>> rules = new ArrayList<>();
    private final Deque<State> acts = new ArrayDeque<>();
    private final State[] images = new State[4];
    private final int[] imageX = new int[4];
    private int lentByRule, leftByRule;

    private boolean barge(int b) {
        return b >= 0 && b < s.barges.size();
    }

    private boolean bookIs(int b) {
        return b >= 0 && b < s.books.size();
    }

    private boolean aboard(int b) {
        return bookIs(b) && (s.books.get(b).where == 100 || s.books.get(b).where == 101);
    }

    private boolean stopIs(int k) {
        return k >= 0 && k < s.stops.size();
    }

    private boolean readerIs(int r) {
        return r >= 0 && r < s.readers.size();
    }

    private void act() {
        acts.addLast(s.copy());
        if (acts.size() > 20) acts.removeFirst();
    }

    int feed(int a, int b, int c, int d, int e) {
        if (tape.length > 380) return NONE;
        int old = tape.length;
        tape = Arrays.copyOf(tape, old + 20);
        java.nio.ByteBuffer.wrap(tape, old, 20).putInt(a).putInt(b).putInt(c).putInt(d).putInt(e);
        return tape.length;
    }

    int end(int n) {
        if (n < 0 || n > tape.length) return NONE;
        tape = Arrays.copyOf(tape, n);
        return n;
    }

    int river() {
        byte[] text = tape;
        tape = new byte[0];
        try {
            s = readRiver(text);
            acts.clear();
            return s.books.size();
        } catch (Fault f) {
            return -2 - f.number;
        }
    }

    int rule() {
        if (rules.size() == 6) return NONE;
        byte[] text = tape;
        tape = new byte[0];
        try {
            rules.add(new RuleText(text).read());
            return rules.size() - 1;
        } catch (Fault f) {
            return -2 - f.number;
        }
    }

    int book(int book, int what) {
        if (!bookIs(book) || what < 0 || what > 6) return NONE;
        Book b = s.books.get(book);
        return new int[] {b.weight, b.shelf, b.worth, b.damp, b.where, b.loans, b.due}[what];
    }

    int stop(int stop, int what) {
        if (!stopIs(stop)) return NONE;
        int set = 0;
        switch (what) {
            case 0: return s.depth(stop);
            case 1:
                for (int b = 0; b < s.books.size(); b++) if (s.books.get(b).where == stop) set += 1 << b;
                return set;
            case 2:
            case 3: return !barge(what - 2) ? NONE : s.passes(what - 2, stop) ? 1 : 0;
            case 4:
                for (int r = 0; r < s.readers.size(); r++) if (s.readers.get(r).stop == stop) set += 1 << r;
                return set;
            default: return NONE;
        }
    }

    int reader(int reader, int what) {
        if (!readerIs(reader) || what < 0 || what > 4) return NONE;
        Reader r = s.readers.get(reader);
        return new int[] {r.stop, r.thumb, r.days, s.bookOf(reader), r.served}[what];
    }

    int wish(int reader, int book) {
        return readerIs(reader) && bookIs(book) ? s.readers.get(reader).wish[book] : NONE;
    }

    int lies(int barge, int what) {
        if (!barge(barge) || what < 0 || what > 6) return -1000000;
        Barge b = s.barges.get(barge);
        return new int[] {s.load(barge), s.tilt(barge), s.draught(barge), b.water, b.at, b.earned, b.shelves}[what];
    }

    int leave(int book) {
        if (!aboard(book)) return NONE;
        act();
        int barge = s.books.get(book).where - 100;
        s.books.get(book).where = s.barges.get(barge).at;
        return s.draught(barge);
    }

    int lend(int book, int reader) {
        if (!aboard(book) || !readerIs(reader) || s.bookOf(reader) != NONE) return NONE;
        int barge = s.books.get(book).where - 100;
        if (s.readers.get(reader).stop != s.barges.get(barge).at) return NONE;
        act();
        s.lend(book, reader, barge);
        return s.draught(barge);
    }

    int fetch(int book, int barge, int shelf) {
        if (!bookIs(book) || !barge(barge) || shelf < 0 || shelf >= s.barges.get(barge).shelves) return NONE;
        if (!s.fetchable(book, barge)) return NONE;
        act();
        s.fetch(book, barge, shelf);
        return s.draught(barge);
    }

    int shift(int book, int shelf) {
        if (!aboard(book)) return NONE;
        int barge = s.books.get(book).where - 100;
        if (shelf < 0 || shelf >= s.barges.get(barge).shelves || s.books.get(book).shelf == shelf) return NONE;
        act();
        s.books.get(book).shelf = shelf;
        return s.draught(barge);
    }

    int hand(int book, int shelf) {
        if (!aboard(book) || s.barges.size() < 2 || s.barges.get(0).at != s.barges.get(1).at) return NONE;
        int other = 101 - s.books.get(book).where;
        if (shelf < 0 || shelf >= s.barges.get(other).shelves) return NONE;
        act();
        s.books.get(book).where = 100 + other;
        s.books.get(book).shelf = shelf;
        return s.draught(other);
    }

    int sail(int barge, boolean isOn) {
        if (!barge(barge)) return NONE;
        int to = s.barges.get(barge).at + (isOn ? 1 : -1);
        if (!stopIs(to) || !s.passes(barge, to)) return NONE;
        act();
        s.barges.get(barge).at = to;
        return to;
    }

    int night() {
        if (s.barges.isEmpty() || s.day == 9999) return NONE;
        act();
        s.night();
        return s.day;
    }

    int rain() {
        if (s.copy().rain() == 0) return NONE;
        act();
        return s.rain();
    }

    int pump(int barge) {
        if (!barge(barge) || s.barges.get(barge).water == 0) return NONE;
        act();
        int w = s.barges.get(barge).water;
        s.barges.get(barge).water = 0;
        return w;
    }

    int plug(int hole, int book) {
        if (hole < 0 || hole >= s.holes.size() || !bookIs(book)) return NONE;
        Hole h = s.holes.get(hole);
        Book b = s.books.get(book);
        if (h.stopped || b.where != 100 + h.barge || b.weight < h.water) return NONE;
        act();
        s.holes.get(hole).stopped = true;
        s.books.get(book).where = 300;
        return s.draught(h.barge);
    }

    int hole(int hole, int what) {
        if (hole < 0 || hole >= s.holes.size() || what < 0 || what > 2) return NONE;
        Hole h = s.holes.get(hole);
        return new int[] {h.barge, h.water, h.stopped ? 1 : 0}[what];
    }

    int undo() {
        if (acts.isEmpty()) return NONE;
        s = acts.removeLast();
        return acts.size();
    }

    /** One STOP by a rule; false: the end of all. */
    private boolean byRule(State s, List<Clause> rule, int barge) {
        Barge a = s.barges.get(barge);
        for (int b = 0; b < s.books.size(); b++) {
            if (!s.fetchable(b, barge)) continue;
            for (Clause c : rule) {
                if (c.kind.equals("fetch") && holds(c.test, s, barge, b)) {
                    s.fetch(b, barge, Math.min(s.books.get(b).shelf, a.shelves - 1));
                    break;
                }
            }
        }
        for (int b = 0; b < s.books.size(); b++) {
            if (!s.isAboard(b, barge)) continue;
            for (Clause c : rule) {
                if (c.kind.equals("shift") && c.shelf < a.shelves && holds(c.test, s, barge, b)) {
                    s.books.get(b).shelf = c.shelf;
                    break;
                }
            }
        }
        if (a.at == s.stops.size() - 1) return false;
        while (!s.passes(barge, a.at + 1)) {
            int least = NONE;
            long leastSum = 0;
            for (int b = 0; b < s.books.size(); b++) {
                if (!s.isAboard(b, barge)) continue;
                Clause first = null;
                for (Clause c : rule) {
                    if (first == null && c.kind.equals("lend") && (c.test == null || holds(c.test, s, barge, b))) first = c;
                }
                if (first == null) continue;
                long sum = value(first.sum, s, barge, b);
                if (least == NONE || sum < leastSum) {
                    least = b;
                    leastSum = sum;
                }
            }
            if (least == NONE) return false;
            int r = s.greatestWisher(least, a.at);
            if (r == NONE) {
                s.books.get(least).where = a.at;
                leftByRule++;
            } else {
                s.lend(least, r, barge);
                lentByRule++;
            }
        }
        a.at++;
        return true;
    }

    int run(int rule, int barge, int n) {
        if (rule < 0 || rule >= rules.size() || !barge(barge) || n < 1 || n > 8) return NONE;
        acts.clear();
        for (int i = 0; i < n; i++) if (!byRule(s, rules.get(rule), barge)) break;
        return s.barges.get(barge).at;
    }

    int left(int barge, int stop, int what) {
        if (!barge(barge) || !stopIs(stop) || stop <= s.barges.get(barge).at || what < 0 || what > 1) return NONE;
        int[] best = null;
        for (int set = 0; set < 1 << s.books.size(); set++) {
            State t = s.copy();
            int worth = 0;
            boolean can = true;
            for (int b = 0; b < t.books.size(); b++) {
                if ((set >> b & 1) == 0) continue;
                can &= t.isAboard(b, barge);
                t.books.get(b).where = t.barges.get(barge).at;
                worth += t.books.get(b).worth;
            }
            for (int k = t.barges.get(barge).at + 1; k <= stop; k++) can &= t.passes(barge, k);
            int[] now = {worth, Integer.bitCount(set), set};
            if (can && (best == null || Arrays.compare(now, best) < 0)) best = now;
        }
        return best == null ? -2 : best[what == 0 ? 0 : 2];
    }

    /** All rows in their order, each sailed; {COINS, row..} of the best, null if it can't be. */
    private int[] bestLending(State from, int barge, int stop, int without) {
        int[] row = new int[from.readers.size()];
        int[][] best = new int[1][];
        tryRows(from, barge, stop, without, row, 0, best);
        return best[0];
    }

    private void tryRows(State from, int barge, int stop, int without, int[] row, int r, int[][] best) {
        if (r == row.length) {
            int coins = sailRow(from.copy(), barge, stop, row);
            if (coins != NONE && (best[0] == null || coins > best[0][0])) {
                best[0] = new int[row.length + 1];
                best[0][0] = coins;
                System.arraycopy(row, 0, best[0], 1, row.length);
            }
            return;
        }
        Reader one = from.readers.get(r);
        for (int b = NONE; b < from.books.size(); b++) {
            if (b != NONE) {
                if (r == without || one.wish[b] == 0 || !from.isAboard(b, barge) || from.bookOf(r) != NONE) continue;
                if (one.stop < from.barges.get(barge).at || one.stop > stop) continue;
                boolean twice = false;
                for (int q = 0; q < r; q++) twice |= row[q] == b;
                if (twice) continue;
            }
            row[r] = b;
            tryRows(from, barge, stop, without, row, r + 1, best);
        }
    }

    private static int sailRow(State t, int barge, int stop, int[] row) {
        int before = t.barges.get(barge).earned;
        for (int k = t.barges.get(barge).at; k <= stop; k++) {
            if (k > t.barges.get(barge).at && !t.passes(barge, k)) return NONE;
            t.barges.get(barge).at = k;
            for (int r = 0; r < row.length; r++) {
                if (t.readers.get(r).stop == k && row[r] != NONE) t.lend(row[r], r, barge);
            }
        }
        return t.barges.get(barge).earned - before;
    }

    private static int coins(int[] best) {
        return best == null ? 0 : best[0];
    }

    private boolean onward(int barge, int stop) {
        return barge(barge) && stopIs(stop) && stop >= s.barges.get(barge).at;
    }

    int lending(int barge, int stop, int what) {
        if (!onward(barge, stop) || what < 0 || what > 7) return NONE;
        int[] best = bestLending(s, barge, stop, NONE);
        if (what == 1) {
            State deeper = s.copy();
            deeper.stops = new ArrayList<>();
            for (List<Integer> depths : s.stops) {
                List<Integer> more = new ArrayList<>();
                for (int d : depths) more.add(d + 1);
                deeper.stops.add(more);
            }
            return coins(bestLending(deeper, barge, stop, NONE)) - coins(best);
        }
        if (best == null) return -2;
        if (what == 0) return best[0];
        return what - 2 < s.readers.size() ? best[what - 1] : NONE;
    }

    int dear(int barge, int stop, int reader) {
        if (!onward(barge, stop) || !readerIs(reader)) return NONE;
        return coins(bestLending(s, barge, stop, NONE)) - coins(bestLending(s, barge, stop, reader));
    }

    int room(int barge, int shelf) {
        if (!barge(barge) || shelf < 0 || shelf >= s.barges.get(barge).shelves) return NONE;
        int next = s.barges.get(barge).at + 1;
        if (!stopIs(next) || !s.passes(barge, next)) return -2;
        int best = 0;
        for (int w = 0; w <= 999; w++) {
            State t = s.copy();
            Book b = new Book();
            b.weight = w;
            b.shelf = shelf;
            b.where = 100 + barge;
            t.books.add(b);
            if (t.passes(barge, next)) best = w;
        }
        return best;
    }

    int meeting() {
        if (s.barges.size() < 2 || s.barges.get(0).at != s.barges.get(1).at) return NONE;
        int stop = s.barges.get(0).at;
        int best = -2;
        for (int set = 0; set < 1 << s.books.size(); set++) {
            State t = s.copy();
            boolean can = true;
            for (int b = 0; b < t.books.size(); b++) {
                if ((set >> b & 1) == 0) continue;
                can &= aboard(b);
                if (!can) break;
                int other = 101 - t.books.get(b).where;
                t.books.get(b).where = 100 + other;
                t.books.get(b).shelf = Math.min(t.books.get(b).shelf, t.barges.get(other).shelves - 1);
            }
            if (!can) continue;
            if (stopIs(stop + 1) && !t.passes(0, stop + 1)) continue;
            if (stopIs(stop - 1) && !t.passes(1, stop - 1)) continue;
            if (best == -2 || Integer.bitCount(set) < Integer.bitCount(best)) best = set;
        }
        return best;
    }

    int aboard(int barge, int draught, int tilt, int what) {
        if (!barge(barge) || draught < 0 || draught > 9999 || what < 0 || what > 2) return NONE;
        int could = 0;
        for (int b = 0; b < s.books.size(); b++) {
            int where = s.books.get(b).where;
            if (where != 300 && where != 101 - barge) could |= 1 << b;
        }
        int n = 0, all = could, some = 0;
        for (int set = 0; set < 1 << s.books.size(); set++) {
            if ((set & ~could) != 0) continue;
            State t = s.copy();
            for (int b = 0; b < t.books.size(); b++) {
                if ((could >> b & 1) == 0) continue;
                t.books.get(b).where = (set >> b & 1) != 0 ? 100 + barge : 0;
                t.books.get(b).shelf = Math.min(t.books.get(b).shelf, t.barges.get(barge).shelves - 1);
            }
            if (t.draught(barge) != draught || tilt != -1000000 && t.tilt(barge) != tilt) continue;
            n++;
            all &= set;
            some |= set;
        }
        if (what == 0) return n;
        if (n == 0) return 0;
        return what == 1 ? all : could & ~some;
    }

    int plugs(int barge, int what) {
        if (!barge(barge) || what < 0 || what > 4) return NONE;
        int[][] best = new int[1][];
        tryPlugs(barge, 0, new int[] {NONE, NONE, NONE, NONE}, best);
        if (best[0] == null) return -2;
        return what == 0 ? worth(best[0]) : best[0][what - 1];
    }

    private int worth(int[] row) {
        int sum = 0;
        for (int b : row) if (b != NONE) sum += s.books.get(b).worth;
        return sum;
    }

    private void tryPlugs(int barge, int hole, int[] row, int[][] best) {
        if (hole == s.holes.size()) {
            if (best[0] == null || worth(row) < worth(best[0])) best[0] = row.clone();
            return;
        }
        Hole h = s.holes.get(hole);
        if (h.barge != barge || h.stopped) {
            tryPlugs(barge, hole + 1, row, best);
            return;
        }
        for (int b = 0; b < s.books.size(); b++) {
            boolean used = false;
            for (int k = 0; k < hole; k++) used |= row[k] == b;
            if (used || !s.isAboard(b, barge) || s.books.get(b).weight < h.water) continue;
            row[hole] = b;
            tryPlugs(barge, hole + 1, row, best);
            row[hole] = NONE;
        }
    }

    int seed(int x) {
        if (x < 0) return NONE;
        int was = this.x;
        this.x = x;
        return was;
    }

    private int draw() {
        x = (int) ((x * 1103515245L + 12345) % 2147483648L);
        return x / 65536;
    }

    int voyages(int rule, int barge, int m, int n, int p, int what) {
        if (rule < 0 || rule >= rules.size() || !barge(barge) || m < 1 || m > 20 || n < 1 || n > 8) return NONE;
        if (p < 0 || p > 100 || what < 0 || what > 2) return NONE;
        int was = x;
        int there = 0;
        lentByRule = 0;
        leftByRule = 0;
        for (int v = 0; v < m; v++) {
            State t = s.copy();
            for (int i = 0; i < n; i++) {
                t.night();
                if (draw() % 100 < p) t.rain();
                if (!t.books.isEmpty()) {
                    int b = draw() % t.books.size();
                    if (t.isAboard(b, barge) && t.books.get(b).weight > 1) t.books.get(b).weight--;
                }
                if (!byRule(t, rules.get(rule), barge)) break;
            }
            if (t.barges.get(barge).at == t.stops.size() - 1) there++;
        }
        x = was;
        return new int[] {there, lentByRule, leftByRule}[what];
    }

    int count(int what) {
        int aboard = 0, left = 0, with = 0, gone = 0;
        for (Book b : s.books) {
            if (b.where == 300) gone++;
            else if (b.where >= 200) with++;
            else if (b.where >= 100) aboard++;
            else left++;
        }
        if (what < 0 || what > 13) return NONE;
        return new int[] {s.barges.size(), s.books.size(), s.stops.size(), s.readers.size(), s.holes.size(),
            rules.size(), s.day, aboard, left, with, gone, acts.size(), x, tape.length}[what];
    }

    int image(int k) {
        if (k < 0 || k > 3) return NONE;
        images[k] = s.copy();
        imageX[k] = x;
        return s.day;
    }

    int back(int k) {
        if (k < 0 || k > 3 || images[k] == null) return NONE;
        s = images[k].copy();
        x = imageX[k];
        acts.clear();
        return s.day;
    }
}
