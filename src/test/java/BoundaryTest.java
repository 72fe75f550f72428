import java.io.IOException;

/**
 * All promises: for each sentence of the document that names a case, a test of its own that goes to
 * the case and to its neighbours. It names the sentence, and each sentence must be named.
 */
public final class BoundaryTest {
    public static void main(String[] args) throws IOException {
        Sentences doc = new Sentences();
        new RunBounds(doc).all();
        new StepBounds(doc).all();
        new TurnBounds(doc).all();
        new StakeBounds(doc).all();
        new TextBounds(doc).all();
        new PastBounds(doc).all();
        new PlayBounds(doc).all();
        new DigestBounds(doc).all();
        namesNoCase(doc);
        doc.end("BoundaryTest");
    }

    private static void namesNoCase(Sentences doc) {
        doc.namesNoCase("What it is", "Magpie Run: two-dice race with blots");
        doc.namesNoCase("Terms", "All numbers are integers, but for a share.");
        doc.namesNoCase("Exceptions", "Ahead of the calls ");
        doc.namesNoCase("Not promised", "How the state is held");
        doc.namesNoCase("Not promised", "Use of one object from several threads");
        doc.namesNoCase("Not promised", "Nothing is promised beyond");
    }
}
