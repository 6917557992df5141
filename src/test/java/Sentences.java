import java.io.IOException;
import java.nio.file.Files;
import java.nio.file.Path;
import java.util.List;
import java.util.regex.Matcher;
import java.util.regex.Pattern;

/**
 * Sentences of the document, each with the answers that it makes due. What is quoted must stand in the document, under
 * its promise; and what the document says of bounds must be quoted.
 */
final class Sentences {
    static final int TERMS = 0;

    private static final Path DOCUMENT = Path.of("../shared/DOC.md");
    private static final int PROMISES = 35;
    private static final Pattern BOUND = Pattern.compile("at most|at least|NONE|-2\\b|-1000000|nothing|all stays|without|"
        + "\\d to \\d|\\btoo\\b|more than|below|above|never|fewe|the least|greatest|the last|if there is none");

    private final StringBuilder document = new StringBuilder();
    private final int[] starts = new int[PROMISES + 2];
    private String now = null;
    private int answersOfNow = 0;
    private int sentences = 0;
    private int answers = 0;
    private int wrong = 0;

    Sentences() throws IOException {
        String text = Files.readString(DOCUMENT).replace("```text", " ").replace("```", " ").replaceAll("\\s+", " ");
        starts[TERMS] = text.indexOf("## Terms");
        for (int promise = 1; promise <= PROMISES; promise++) starts[promise] = text.indexOf("## Promise " + promise + ":");
        starts[PROMISES + 1] = text.indexOf("## Not promised");
        document.append(text);
    }

    private void fail(String what) {
        wrong++;
        System.out.println(what);
    }

    /** What follows is due by these words of a promise (or of the TERMS). */
    void says(int promise, String words) {
        close();
        now = (promise == TERMS ? "terms: " : "promise " + promise + ": ") + words;
        sentences++;
        int from = starts[promise];
        int to = starts[promise + 1];
        int at = from < 0 || to < from ? -1 : document.substring(from, to).indexOf(words);
        if (at < 0) {
            fail("the document does not say (or it was quoted before): " + now);
            return;
        }
        // What was quoted is taken out, so that the rest can be looked through at the end.
        for (int i = 0; i < words.length(); i++) document.setCharAt(from + at + i, '~');
    }

    private void close() {
        if (now != null && answersOfNow == 0) fail("without a test: " + now);
        answersOfNow = 0;
    }

    void due(String call, int got, int want) {
        answers++;
        answersOfNow++;
        if (got != want) fail(now + "\n    " + call + " answered " + got + ", due is " + want);
    }

    /** That all which was found out of two objects is the same. */
    void same(String call, List<Integer> got, List<Integer> want) {
        answers++;
        answersOfNow++;
        if (got.equals(want)) return;
        int at = 0;
        while (at < got.size() && at < want.size() && got.get(at).equals(want.get(at))) at++;
        fail(now + "\n    " + call + ": not all is as it was (from answer " + at + " on)");
    }

    /** Whether all was as due. */
    boolean end() {
        close();
        for (int promise = TERMS; promise <= PROMISES; promise++) {
            String rest = document.substring(starts[promise], starts[promise + 1]);
            if (promise != TERMS && rest.indexOf('~') < 0) fail("no sentence of promise " + promise + " is tested");
            Matcher bound = BOUND.matcher(rest);
            while (bound.find()) {
                int first = Math.max(0, bound.start() - 40);
                int last = Math.min(rest.length(), bound.end() + 40);
                fail("a bound that is not quoted, promise " + promise + ": .." + rest.substring(first, last) + "..");
            }
        }
        System.out.println(sentences + " sentences, " + answers + " answers, " + wrong + " wrong");
        return wrong == 0;
    }
}
