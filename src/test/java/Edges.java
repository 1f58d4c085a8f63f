import java.util.ArrayList;
import java.util.List;

/**
 * Tests of the boundary cases that the document names. Each one names the promise that it is of
 * and quotes the sentence that it would fail for, if that were broken; {@link SentencesTest}
 * looks that the quotes stand in the document and that no sentence was forgotten.
 */
final class Edges {
    static final String CHANGES_NOTHING = "A method that throws an exception changes nothing.";
    static final String FIRST_NAMED =
            "If several exceptions apply, the one that is named first is thrown.";

    record Edge(int promise, String sentence, String what, Runnable test) {
    }

    private final List<Edge> all = new ArrayList<>();

    void of(int promise, String sentence, String what, Runnable test) {
        all.add(new Edge(promise, sentence, what, test));
    }

    List<Edge> all() {
        return all;
    }

    /** Runs each on its own, so that what one finds does not hide the others. */
    void run() {
        for (Edge edge : all) {
            Check.about("promise " + edge.promise + " (" + edge.sentence + ") " + edge.what);
            int before = Check.looked();
            try {
                edge.test.run();
            } catch (RuntimeException e) {
                Check.report("threw " + e);
            }
            Check.holds("the test looks at something", Check.looked() > before);
        }
        Check.about("");
        Check.finish();
    }
}
