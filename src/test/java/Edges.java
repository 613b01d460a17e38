import java.util.BitSet;
import java.util.function.Consumer;

/** The tests of single sentences. Each names its promise and quotes its sentence from the document. */
final class Edges {
    private final Due due = new Due("edges");
    private final Doc doc;
    private final BitSet promises = new BitSet();
    private String now = "";
    private int tests;
    private int answers;

    Edges(Doc doc) {
        this.doc = doc;
    }

    void test(int promise, String sentence, Consumer<Asked> body) {
        now = "promise " + promise + ", \"" + sentence + "\": ";
        is("stands in the document", doc.says(promise, sentence) ? 1 : 0, 1);
        int before = answers;
        try {
            body.accept(new Asked(this));
        } catch (IllegalStateException broken) {
            is(broken.getMessage(), 0, 1);
        }
        is("something was asked", answers > before ? 1 : 0, 1);
        promises.set(promise);
        tests++;
    }

    void is(String what, long got, long want) {
        answers++;
        due.is(now + what, got, want);
    }

    void end() {
        now = "";
        is("promises with a test", promises.cardinality(), Doc.PROMISES);
        for (String left : doc.unquoted()) {
            is("no test quotes <" + left + ">", 0, 1);
        }
        System.out.println("edges: " + tests + " tests of a sentence each");
        due.end();
    }
}
