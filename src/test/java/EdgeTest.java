/** Every sentence of the document, in its own words, with the edges that it names; none is left out. */
public final class EdgeTest {
    public static void main(String[] args) throws Exception {
        Sentences doc = new Sentences(new Bench("EdgeTest"));
        new TextEdges(doc).go();
        new ActEdges(doc).go();
        new QuestionEdges(doc).go();
        new KeptEdges(doc).go();
        doc.finish();
    }
}
