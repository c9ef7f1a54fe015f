import java.io.IOException;

/**
 * Each sentence of the document's terms and promises, with calls on both sides
 * of what it bounds. Every test begins with says(), which tells the promise's
 * number and the sentence; Sentences holds these against the document.
 */
public final class BoundaryTest {
    private BoundaryTest() {
    }

    public static void main(String[] args) throws IOException {
        Sentences sentences = new Sentences();
        new NetBounds(sentences).all();
        new TextBounds(sentences).all();
        new MatchBounds(sentences).all();
        new CoverBounds(sentences).all();
        new AnswerBounds(sentences).all();
        sentences.end();
    }
}
