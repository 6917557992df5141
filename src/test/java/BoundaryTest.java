import java.io.IOException;

/** Each sentence of the document that names a bound: the last that is good, the first that is not, what stays. */
public final class BoundaryTest {
    public static void main(String[] args) throws IOException {
        Sentences sentences = new Sentences();
        new TextBoundaries(sentences).all();
        new ActBoundaries(sentences).all();
        new QuestionBoundaries(sentences).all();
        if (!sentences.end()) System.exit(1);
    }
}
