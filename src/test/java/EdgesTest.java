/**
 * Each sentence of the document has a test of its own: its words stand at the test's head, and no words of the
 * Terms or of a promise are left without one.
 */
public final class EdgesTest extends Check {
    public static void main(String[] args) {
        TermsEdges.all();
        RowsEdges.all();
        DaysEdges.all();
        SetsEdges.all();
        ChanceEdges.all();
        ToldEdges.all();
        Refusals.all();
        nothingIsLeftOut();
        end();
    }

    private static void nothingIsLeftOut() {
        for (int promise = 0; promise <= Document.PROMISES; promise++) {
            of(promise);
            String left = Document.untold(promise);
            if (!left.isEmpty()) {
                fault("no test is about: " + left);
            }
        }
    }
}
