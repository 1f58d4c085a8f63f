import java.io.IOException;
import java.nio.file.Files;
import java.nio.file.Path;
import java.util.ArrayList;
import java.util.List;
import java.util.Set;
import java.util.TreeSet;

/**
 * Looks that the sentences that the boundary tests quote stand in the document, under the promise
 * that they name or ahead of all promises, and that each sentence there has a test that quotes it
 * or part of it, but for those that name no boundary case.
 */
public final class SentencesTest {
    private static final Path DOCUMENT = Path.of("../shared/DOC.md");
    private static final int PROMISES = 37;

    /** Sentences without a boundary case: what things are called, and what the tests share. */
    private static final Set<String> WITHOUT_AN_EDGE = Set.of(
            "A rasteriser of stained glass.",
            "what later calls answer is free.",
            "Panes are triangles in space, of plain or patterned glass, some of which let through"
                    + " half of what is behind them.",
            "They are looked at through a camera, cut off in front of it, brought to a screen of"
                    + " few points with sixteen steps between two of them, and drawn point by"
                    + " point: each point that lies in a pane, with a rule for points on edges,"
                    + " gets a colour, unless something nearer is there already.",
            "The picture is kept;",
            "as corners are moved, only the tiles that must be drawn anew are.",
            "One can ask for every step: where a corner comes to lie, what is cut off, which panes"
                    + " a point lies in, and what would be seen without one.",
            "All numbers are whole.",
            "Cutting.",
            "Each point has a colour, a depth and a pane;",
            "For a piece with the corners A, B, C on the screen let turn(P, Q, R) be (Q.sx - P.sx)"
                    + " * (R.sy - P.sy) - (Q.sy - P.sy) * (R.sx - P.sx), and area be turn(A, B,"
                    + " C).",
            "With M the middle of a point let wa = turn(B, C, M), wb = turn(C, A, M), wc ="
                    + " turn(A, B, M).");

    public static void main(String[] args) throws IOException {
        if (!Files.exists(DOCUMENT)) {
            System.out.println("no " + DOCUMENT + " here: the quotes are not looked at");
            return;
        }
        String document = Files.readString(DOCUMENT);
        String ahead = between(document, "\n## What it is", "\n## Promise 1:");
        List<Edges.Edge> edges = new ArrayList<>();
        for (Edges some : List.of(ThingsEdgesTest.edges(), StepsEdgesTest.edges(),
                PointsEdgesTest.edges(), PictureEdgesTest.edges(), WouldBeEdgesTest.edges())) {
            edges.addAll(some.all());
        }
        quotesStand(document, ahead, edges);
        namesDiffer(edges);
        everySentenceAhead(ahead, edges);
        for (int promise = 1; promise <= PROMISES; promise++) {
            everySentenceOf(promise, section(document, promise), edges);
        }
        Check.finish();
    }

    private static String between(String text, String from, String to) {
        int start = text.indexOf(from);
        int end = text.indexOf(to, start + 1);
        return text.substring(start, end < 0 ? text.length() : end);
    }

    private static String section(String document, int promise) {
        return between(document, "\n## Promise " + promise + ":", "\n## ");
    }

    private static void quotesStand(String document, String ahead, List<Edges.Edge> edges) {
        for (Edges.Edge edge : edges) {
            Check.holds("promise " + edge.promise() + " does not say: " + edge.sentence(),
                    ahead.contains(edge.sentence())
                            || section(document, edge.promise()).contains(edge.sentence()));
        }
    }

    private static void namesDiffer(List<Edges.Edge> edges) {
        Set<String> names = new TreeSet<>();
        for (Edges.Edge edge : edges) {
            String name = edge.promise() + ": " + edge.sentence() + ": " + edge.what();
            Check.holds("two tests are called " + name, names.add(name));
        }
    }

    /** The sentences, and the parts that a semicolon parts, of a text; not the titles and calls. */
    private static List<String> sentences(String text) {
        List<String> sentences = new ArrayList<>();
        for (String line : text.split("\n")) {
            if (!line.startsWith("#") && !line.startsWith("==") && !line.startsWith("```")
                    && !line.startsWith("`") && !line.startsWith("    ")
                    && !line.startsWith("Ahead of the calls") && !line.isBlank()) {
                for (String part : line.strip().split("(?<=[.;])\\s+")) {
                    sentences.add(part);
                }
            }
        }
        return sentences;
    }

    private static boolean isQuoted(String sentence, List<Edges.Edge> edges, int promise) {
        for (Edges.Edge edge : edges) {
            boolean isOfThis = promise == 0 || edge.promise() == promise;
            if (isOfThis && (sentence.contains(edge.sentence())
                    || edge.sentence().contains(sentence))) {
                return true;
            }
        }
        return false;
    }

    private static void everySentenceAhead(String ahead, List<Edges.Edge> edges) {
        String face = between(ahead, "\n## The public face", "\n## Terms");
        for (String sentence : sentences(ahead.replace(face, "\n"))) {
            Check.holds("no test quotes: " + sentence, WITHOUT_AN_EDGE.contains(sentence)
                    || isQuoted(sentence, edges, 0));
        }
    }

    private static void everySentenceOf(int promise, String section, List<Edges.Edge> edges) {
        for (String line : section.split("\n")) {
            if (line.startsWith("Returns") || line.startsWith("Throws")) {
                for (String sentence : sentences(line)) {
                    Check.holds("no test of promise " + promise + " quotes: " + sentence,
                            isQuoted(sentence, edges, promise));
                }
            }
        }
        Check.holds("promise " + promise + " has no test of a boundary case",
                edges.stream().anyMatch(edge -> edge.promise() == promise));
    }
}
