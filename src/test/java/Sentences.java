import java.io.IOException;
import java.nio.file.Files;
import java.nio.file.Path;
import java.util.List;

/**
 * Sentences of the document, each with the answers that it makes due. What is quoted must stand in the document, under
 * its promise; and all that the document promises must be quoted.
 */
final class Sentences {
    /** The parts of the document: its terms, promises 1 to 35, and what it says of an object's use. */
    static final int TERMS = 0;
    static final int PROMISES = 35;
    static final int USE = 36;

    private static final Path DOCUMENT = Path.of("../shared/DOC.md");
    /** What stands between sentences and says nothing. */
    private static final String[] BETWEEN = {"## Terms", "==== II.", "==== III.", "How a BARGE lies:", "ACTS:", "|", ","};

    private final StringBuilder document = new StringBuilder();
    private final int[] starts = new int[USE + 1];
    private final int[] ends = new int[USE + 1];
    private final boolean isRead;
    private String now = null;
    private int answersOfNow = 0;
    private int sentences = 0;
    private int answers = 0;
    private int wrong = 0;

    Sentences() throws IOException {
        isRead = Files.isReadable(DOCUMENT);
        if (!isRead) {
            System.out.println("no document at " + DOCUMENT + ": quotes are not looked up");
            return;
        }
        String text = Files.readString(DOCUMENT).replace("```text", " ").replace("```", " ").replaceAll("\\s+", " ");
        mark(text, TERMS, "## Terms", "## Promise 1:");
        for (int promise = 1; promise < PROMISES; promise++) {
            mark(text, promise, "## Promise " + promise + ":", "## Promise " + (promise + 1) + ":");
        }
        mark(text, PROMISES, "## Promise 35:", "## Not promised");
        mark(text, USE, "An object is used", "## The public face");
        document.append(text);
    }

    private void mark(String text, int part, String first, String behind) {
        starts[part] = Math.max(0, text.indexOf(first));
        ends[part] = Math.max(starts[part], text.indexOf(behind));
    }

    private void fail(String what) {
        wrong++;
        System.out.println(what);
    }

    /** What follows is due by these words of a part of the document. */
    void says(int part, String words) {
        close();
        now = (part == TERMS ? "terms: " : part == USE ? "use: " : "promise " + part + ": ") + words;
        sentences++;
        if (!isRead) return;
        int from = starts[part];
        int at = document.substring(from, ends[part]).indexOf(words);
        if (at < 0) {
            fail("the document does not say (or it was quoted before): " + now);
            return;
        }
        // What was quoted is taken out, so that the rest can be looked through at the end.
        for (int i = 0; i < words.length(); i++) document.setCharAt(from + at + i, '~');
    }

    private void close() {
        if (now != null && answersOfNow == 0) fail("without a test: " + now);
        answersOfNow = 0;
    }

    void due(String call, int got, int want) {
        answers++;
        answersOfNow++;
        if (got != want) fail(now + "\n    " + call + " answered " + got + ", due is " + want);
    }

    /** That all which was found out of two objects is the same. */
    void same(String call, List<Integer> got, List<Integer> want) {
        answers++;
        answersOfNow++;
        if (got.equals(want)) return;
        int at = 0;
        while (at < got.size() && at < want.size() && got.get(at).equals(want.get(at))) at++;
        fail(now + "\n    " + call + ": not all is as it was (from answer " + at + " on)");
    }

    /** Whether all was as due. */
    boolean end() {
        close();
        for (int part = TERMS; part <= USE; part++) {
            String rest = document.substring(starts[part], ends[part]).replace("~", "");
            rest = rest.replaceAll("## Promise \\d+: [\\w ]*`[^`]*`:", "");
            for (String word : BETWEEN) rest = rest.replace(word, "");
            if (!rest.isBlank()) fail("no test quotes, in part " + part + ": " + rest.replaceAll("\\s+", " "));
        }
        System.out.println(sentences + " sentences, " + answers + " answers, " + wrong + " wrong");
        return wrong == 0;
    }
}
