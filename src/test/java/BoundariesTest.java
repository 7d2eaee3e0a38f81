import java.io.IOException;

/**
 * The boundary cases of the document: for each of its sentences a test that names the promise and the sentence. A
 * sentence of the document that no test names is a fault too.
 */
public final class BoundariesTest {
    private BoundariesTest() {
    }

    public static void main(String[] args) throws IOException {
        Document document = new Document();
        Due due = new Due(document);
        new TermsBounds(due).test();
        new TextTermsBounds(due).test();
        new ChangesBounds(due).test();
        new QueriesBounds(due).test();
        new TextsBounds(due).test();
        new UndoBounds(due).test();
        for (String sentence : document.untold()) {
            due.holds("no test names the sentence " + sentence, false);
        }
        due.end();
    }
}
