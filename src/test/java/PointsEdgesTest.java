/** Boundary cases of promises 19 to 22: the points of a pane. */
public final class PointsEdgesTest {
    private static final String POINTS_ANSWER = "Returns in how many points of the screen a piece"
            + " of it that would be drawn lies, if it was shown (a point in both pieces counted"
            + " once).";
    private static final String LIES_ANSWER = "Returns whether the point lies in a piece of it"
            + " that would be drawn, if it was shown.";
    private static final String DEPTH_ANSWER =
            "Returns the depth of the first such piece there; -1 without one.";
    private static final String COLOUR_ANSWER = "Returns the colour of the first such piece there"
            + " (that of the pattern reckoned in); -1 without one.";
    private static final String NO_PANE =
            "Throws `IndexOutOfBoundsException` if there is no such pane";
    private static final String NO_POINT = "Throws `IndexOutOfBoundsException` if there is no such"
            + " pane, x is not 0 to 39, or y is not 0 to 23";
    private static final String LIES = "The point lies in the piece if none of them is less than"
            + " 0, and for each that is 0 the edge from its first to its second corner (B to C, C"
            + " to A, A to B) counts: that is so if it goes up (sy gets less), or if it goes"
            + " straight to the right (sy stays, sx gets greater).";
    private static final String FROM_BEHIND = "If it is less than 0, the piece is seen from"
            + " behind: it is drawn only if the pane is two-sided, with B and C exchanged (and the"
            + " area without its sign).";
    private static final String MEANS = "There, each of r, g, b and the depth is (wa * that of A"
            + " + wb * that of B + wc * that of C) // area.";
    private static final String PATTERN_PLACE = "column u / 128 and row v / 128, which, if that is"
            + " more than 7, are the rest by 8 (the pattern repeats) or 7 (it ends).";
    private static final String PATTERN_MEANS = "With a pattern u is (wa * A.q * A.u + wb * B.q *"
            + " B.u + wc * C.q * C.u) // (wa * A.q + wb * B.q + wc * C.q), v likewise;";
    private static final String PATTERN_COLOUR = "The colour is that of the pattern then, each of"
            + " r, g, b times that (as reckoned from the corners) / 255.";
    private static final String NOT_WRAPPED = "Where a number could be greater than 32 bits can"
            + " hold, it is meant as it is, not wrapped, if nothing else is said.";

    public static void main(String[] args) {
        edges().run();
    }

    static Edges edges() {
        Edges edges = new Edges();
        pointsOf(edges);
        bothPiecesCountOnce(edges);
        liesIn(edges);
        edgesThatCount(edges);
        besideAnEdge(edges);
        leastAreas(edges);
        fromBehind(edges);
        depthOf(edges);
        firstPiece(edges);
        colourOf(edges);
        patternPlaces(edges);
        patternMeans(edges);
        patternOfGreatestArea(edges);
        patternColours(edges);
        refused(edges);
        return edges;
    }

    private static void pointsOf(Edges edges) {
        edges.of(19, POINTS_ANSWER, "none, one and all 960", () -> {
            GlassRaster g = Scenes.flat();
            int first = Scenes.whole(g, 0);
            Check.is("all", g.pointsOf(Scenes.pane(g, first, false)), 960);
            first = Scenes.dot(g, 0, 0, 0);
            Check.is("the first one", g.pointsOf(Scenes.pane(g, first, false)), 1);
            first = Scenes.dot(g, 39, 23, 0);
            Check.is("the last one", g.pointsOf(Scenes.pane(g, first, false)), 1);
            first = g.addCorner(9, 9, 0, 0, 0, 0);
            g.addCorner(22, 9, 0, 0, 0, 0);
            g.addCorner(9, 22, 0, 0, 0, 0);
            Check.is("between four points", g.pointsOf(Scenes.pane(g, first, false)), 0);
        });
        edges.of(19, POINTS_ANSWER, "not shown", () -> {
            GlassRaster g = Scenes.flat();
            Scenes.pane(g, Scenes.triangle(g, 6, 6, 0), false);
            g.show(0, false);
            Check.is("pointsOf", g.pointsOf(0), 10);
        });
        edges.of(19, POINTS_ANSWER, "no piece that would be drawn", () -> {
            GlassRaster g = Scenes.flat();
            Scenes.triangle(g, 6, 6, 0);
            g.addPane(0, 2, 1, -1, false, false);
            g.addPane(0, 1, 2, -1, false, false);
            Check.is("seen from behind", g.pointsOf(0), 0);
            g.setLens(641, 40);
            Check.is("no corners", g.pointsOf(1), 0);
        });
        edges.of(19, "The screen has 40 points in each of 24 lines.", "at its four corners", () -> {
            int[][] places = {{-2, 6}, {37, 6}, {6, -2}, {6, 21}, {-2, -1}, {37, 22}, {40, 6},
                {6, 24}, {-4, 6}, {6, -4}};
            int[] due = {3, 9, 3, 9, 1, 6, 0, 0, 0, 0};
            for (int i = 0; i < due.length; i++) {
                GlassRaster g = Scenes.flat();
                Scenes.pane(g, Scenes.triangle(g, places[i][0], places[i][1], 0), false);
                Check.is("at " + places[i][0] + ", " + places[i][1], g.pointsOf(0), due[i]);
            }
        });
        edges.of(19, POINTS_ANSWER, "all over the screen, by any first corner", () -> {
            int[][] places = {{0, 0}, {35, 0}, {0, 19}, {35, 19}, {18, 10}, {2, 18}, {30, 2}};
            for (int[] at : places) {
                points(at[0], at[1], new int[] {0, 0, 4, 0, 0, 4}, 10);
                points(at[0], at[1], new int[] {4, 0, 4, 4, 0, 4}, 6);
            }
        });
        edges.of(19, NOT_WRAPPED, "the greatest area", () -> {
            GlassRaster g = Scenes.huge(0, 0, 0);
            Check.is("pointsOf", g.pointsOf(Scenes.pane(g, 0, false)), 960);
        });
    }

    /** Three corners in the middles of points, so many points from (px, py). */
    private static void points(int px, int py, int[] by, int due) {
        for (int first = 0; first < 3; first++) {
            GlassRaster g = Scenes.flat();
            for (int k = first; k < first + 3; k++) {
                Scenes.corner(g, px + by[k % 3 * 2], py + by[k % 3 * 2 + 1], 0);
            }
            Check.is("pointsOf", g.pointsOf(Scenes.pane(g, 0, false)), due);
        }
    }

    private static void bothPiecesCountOnce(Edges edges) {
        edges.of(19, POINTS_ANSWER, "all points in both pieces", () -> {
            Check.is("two-sided", Scenes.folded(false, true).pointsOf(0), 3);
            Check.is("one-sided", Scenes.folded(false, false).pointsOf(0), 3);
        });
        edges.of(19, POINTS_ANSWER, "some points in both pieces", () ->
                Check.is("pointsOf", Scenes.foldedBehind(false).pointsOf(0), 15));
        edges.of(19, POINTS_ANSWER, "points on the edge between both pieces", () ->
                Check.is("pointsOf", Scenes.square(10, 5, false).pointsOf(0), 16));
    }

    private static void liesIn(Edges edges) {
        edges.of(20, "The middle of the point x in the line y lies at 16 * x + 8, 16 * y + 8.",
                "a piece about one middle", () -> {
            int[][] points = {{0, 0}, {39, 0}, {0, 23}, {39, 23}, {20, 12}};
            for (int[] at : points) {
                GlassRaster g = Scenes.flat();
                Scenes.pane(g, Scenes.dot(g, at[0], at[1], 0), false);
                for (int[] other : points) {
                    Check.is("liesIn", g.liesIn(0, other[0], other[1]), other == at);
                }
            }
        });
        edges.of(20, LIES_ANSWER, "not shown", () -> {
            GlassRaster g = Scenes.flat();
            Scenes.pane(g, Scenes.triangle(g, 6, 6, 0), false);
            g.show(0, false);
            Check.is("liesIn", g.liesIn(0, 6, 6), true);
        });
        edges.of(20, LIES_ANSWER, "in the first piece, the second one, both or none", () -> {
            GlassRaster g = Scenes.foldedBehind(false);
            Check.is("in both", g.liesIn(0, 21, 3), true);
            Check.is("in the first", g.liesIn(0, 21, 16), true);
            Check.is("in the second", g.liesIn(0, 20, 9), true);
            Check.is("in none", g.liesIn(0, 21, 2), false);
            Check.is("in none", g.liesIn(0, 21, 17), false);
        });
        edges.of(20, LIES_ANSWER, "no piece that would be drawn", () -> {
            GlassRaster g = Scenes.flat();
            Scenes.whole(g, 0);
            g.addPane(0, 2, 1, -1, false, false);
            g.addPane(0, 1, 2, -1, false, true);
            Check.is("seen from behind", g.liesIn(0, 20, 12), false);
            Check.is("seen from the front", g.liesIn(1, 20, 12), true);
            g.setLens(641, 40);
            Check.is("no corners", g.liesIn(1, 20, 12), false);
            g.setLens(640, 500);
            Check.is("sx 25320", g.liesIn(1, 20, 12), true);
            g.setCamera(0, 1300, 0, 0, 0);
            Check.is("left out", g.liesIn(1, 20, 12), false);
        });
    }

    /** Three corners in the middles of points, in each order that is seen from the front. */
    private static void triangle(int[] corners, int x, int y, boolean due) {
        for (int turned = 0; turned < 3; turned++) {
            GlassRaster g = Scenes.flat();
            for (int i = 0; i < 3; i++) {
                int at = (i + turned) % 3 * 2;
                Scenes.corner(g, corners[at], corners[at + 1], 0);
            }
            g.addPane(0, 1, 2, -1, false, false);
            g.addPane(0, 2, 1, -1, false, true);
            Check.is("it is seen from the front", g.piecesOf(0), 1);
            Check.is("liesIn(0, " + x + ", " + y + ")", g.liesIn(0, x, y), due);
            Check.is("liesIn(1, " + x + ", " + y + ")", g.liesIn(1, x, y), due);
        }
    }

    private static void edgesThatCount(Edges edges) {
        int[] upperLeft = {10, 5, 14, 5, 10, 9};
        int[] lowerLeft = {10, 5, 14, 9, 10, 9};
        int[] lowerRight = {14, 5, 14, 9, 10, 9};
        int[] upperRight = {10, 5, 14, 5, 14, 9};
        edges.of(20, LIES, "an edge that goes up counts", () -> {
            triangle(upperLeft, 10, 7, true);
            triangle(lowerLeft, 10, 7, true);
            triangle(lowerRight, 12, 7, true);
            triangle(upperRight, 12, 7, true);
        });
        edges.of(20, LIES, "an edge that goes down does not count", () -> {
            triangle(upperLeft, 12, 7, false);
            triangle(lowerLeft, 12, 7, false);
            triangle(lowerRight, 14, 7, false);
            triangle(upperRight, 14, 7, false);
        });
        edges.of(20, LIES, "an edge straight to the right counts", () -> {
            triangle(upperLeft, 12, 5, true);
            triangle(upperRight, 12, 5, true);
        });
        edges.of(20, LIES, "an edge straight to the left does not count", () -> {
            triangle(lowerLeft, 12, 9, false);
            triangle(lowerRight, 12, 9, false);
        });
        edges.of(20, LIES, "at a corner both edges have to count", () -> {
            triangle(upperLeft, 10, 5, true);
            triangle(upperLeft, 14, 5, false);
            triangle(upperLeft, 10, 9, false);
            triangle(lowerLeft, 10, 5, false);
            triangle(lowerRight, 10, 9, false);
            triangle(upperRight, 10, 5, true);
            int[] bothGoUp = {10, 9, 8, 5, 12, 1};
            triangle(new int[] {12, 9, 8, 5, 12, 1}, 8, 5, true);
            triangle(bothGoUp, 8, 5, true);
        });
        edges.of(20, LIES, "on the line of an edge, but beyond its end", () -> {
            triangle(upperLeft, 15, 5, false);
            triangle(upperLeft, 9, 5, false);
            triangle(upperLeft, 10, 4, false);
            triangle(upperLeft, 10, 10, false);
        });
    }

    private static void besideAnEdge(Edges edges) {
        edges.of(20, LIES, "a sixteenth on either side of an edge", () -> {
            for (int by = -1; by <= 1; by++) {
                GlassRaster g = Scenes.flat();
                int left = 16 * 10 + 8 - 320;
                int top = 16 * 5 + 8 - 192;
                g.addCorner(left + by, top + by, 0, 0, 0, 0);
                g.addCorner(left + 64 + by, top + by, 0, 0, 0, 0);
                g.addCorner(left + 64 + by, top + 64 + by, 0, 0, 0, 0);
                g.addCorner(left + by, top + 64 + by, 0, 0, 0, 0);
                g.addPane(0, 1, 3, -1, false, false);
                g.addPane(1, 2, 3, -1, false, false);
                Check.is("upper edge", g.liesIn(0, 12, 5), by <= 0);
                Check.is("left edge", g.liesIn(0, 10, 7), by <= 0);
                Check.is("lower edge", g.liesIn(1, 12, 9), by > 0);
                Check.is("right edge", g.liesIn(1, 14, 7), by > 0);
            }
        });
    }

    /** Three corners about or at the middle of (12, 7), so many sixteenths from it. */
    private static GlassRaster about(int... by) {
        GlassRaster g = Scenes.flat();
        for (int i = 0; i < 3; i++) {
            g.addCorner(16 * 12 + 8 - 320 + by[2 * i], 16 * 7 + 8 - 192 + by[2 * i + 1], 0,
                    0x123456, 0, 0);
        }
        g.addPane(0, 1, 2, -1, false, false);
        g.addPane(0, 2, 1, -1, false, false);
        g.addPane(0, 2, 1, -1, false, true);
        return g;
    }

    private static void hasOnePoint(GlassRaster g) {
        for (int pane = 0; pane < 3; pane++) {
            boolean isDrawn = pane != 1;
            Check.is("liesIn(" + pane + ", 12, 7)", g.liesIn(pane, 12, 7), isDrawn);
            Check.is("pointsOf(" + pane + ")", g.pointsOf(pane), isDrawn ? 1 : 0);
            Check.is("depthOf(" + pane + ", 12, 7)", g.depthOf(pane, 12, 7),
                    isDrawn ? 55296 : -1);
            Check.is("colourOf(" + pane + ", 12, 7)", g.colourOf(pane, 12, 7),
                    isDrawn ? 0x123456 : -1);
        }
    }

    private static void leastAreas(Edges edges) {
        edges.of(20, LIES, "the least area, 1, and two weights of 0", () ->
                hasOnePoint(about(0, 0, 1, 0, 0, 1)));
        edges.of(20, LIES, "the area 3, and three weights of 1", () ->
                hasOnePoint(about(-1, -1, 1, 0, 0, 1)));
        edges.of(20, LIES, "the area 1, and a weight of -1", () -> {
            GlassRaster g = about(-1, -1, 1, 0, 0, -1);
            Check.is("it has an area", g.piecesOf(2), 1);
            Check.is("liesIn", g.liesIn(2, 12, 7), false);
            Check.is("pointsOf", g.pointsOf(2), 0);
        });
    }

    private static void fromBehind(Edges edges) {
        edges.of(20, FROM_BEHIND, "only a two-sided pane", () -> {
            GlassRaster g = Scenes.flat();
            Scenes.triangle(g, 6, 6, 0);
            g.addPane(0, 2, 1, -1, false, false);
            g.addPane(0, 2, 1, -1, false, true);
            for (int y = 5; y < 11; y++) {
                for (int x = 5; x < 11; x++) {
                    Check.is("one-sided", g.liesIn(0, x, y), false);
                    Check.is("two-sided", g.liesIn(1, x, y), Scenes.inTriangle(6, 6, x, y));
                }
            }
        });
        edges.of(22, FROM_BEHIND, "its colours go with B and C", () -> {
            GlassRaster g = Scenes.flat();
            Scenes.corner(g, 10, 5, 0x000000);
            Scenes.corner(g, 14, 5, 0xFF0000);
            Scenes.corner(g, 10, 9, 0x00FF00);
            g.addPane(0, 2, 1, -1, false, true);
            Check.is("towards the third", g.colourOf(0, 13, 5), 191 * 65536);
            Check.is("towards the second", g.colourOf(0, 10, 8), 191 * 256);
        });
    }

    private static void depthOf(Edges edges) {
        edges.of(21, DEPTH_ANSWER, "-1 without a piece there", () -> {
            GlassRaster g = Scenes.flat();
            Scenes.triangle(g, 6, 6, 0);
            g.addPane(0, 1, 2, -1, false, false);
            g.addPane(0, 2, 1, -1, false, false);
            Check.is("beside it", g.depthOf(0, 5, 6), -1);
            Check.is("on an edge that does not count", g.depthOf(0, 8, 8), -1);
            Check.is("seen from behind", g.depthOf(1, 6, 6), -1);
            g.setLens(641, 40);
            Check.is("no corners", g.depthOf(0, 6, 6), -1);
        });
        edges.of(21, DEPTH_ANSWER, "0 is a depth", () -> {
            GlassRaster g = Scenes.flat();
            Scenes.pane(g, Scenes.triangle(g, 6, 6, 0), false);
            g.setLens(640, 40);
            Check.is("at near", g.depthOf(0, 6, 6), 0);
        });
        edges.of(21, DEPTH_ANSWER, "not shown", () -> {
            GlassRaster g = Scenes.flat();
            Scenes.pane(g, Scenes.triangle(g, 6, 6, 0), false);
            g.show(0, false);
            Check.is("depthOf", g.depthOf(0, 6, 6), 55296);
        });
        edges.of(21, MEANS, "cut downwards", () -> {
            GlassRaster g = Scenes.flat();
            Scenes.corner(g, 10, 5, 0);
            Scenes.farCorner(g, 14, 5, 0);
            Scenes.corner(g, 10, 9, 0);
            g.addPane(0, 1, 2, -1, false, false);
            g.setLens(101, 40);
            Check.is("at a corner", g.depthOf(0, 10, 5), 55193);
            Check.is("a quarter of the way, 56485.75", g.depthOf(0, 11, 5), 56485);
            Check.is("a half of the way, 57778.5", g.depthOf(0, 12, 5), 57778);
        });
        edges.of(21, NOT_WRAPPED, "the greatest area", () -> {
            GlassRaster g = Scenes.huge(0, 0, 0);
            Scenes.pane(g, 0, false);
            Check.is("the first point", g.depthOf(0, 0, 0), 61440);
            Check.is("the last point", g.depthOf(0, 39, 23), 61440);
        });
    }

    private static void firstPiece(Edges edges) {
        edges.of(21, DEPTH_ANSWER, "the first piece, even if the second is nearer", () -> {
            GlassRaster g = Scenes.folded(false, true);
            Check.is("at (18, 13)", g.depthOf(0, 18, 13), 32768);
            Check.is("at (16, 14)", g.depthOf(0, 16, 14), 10922);
        });
        edges.of(21, DEPTH_ANSWER, "the first piece that would be drawn", () -> {
            GlassRaster g = Scenes.folded(false, true);
            g.addPane(2, 0, 1, -1, false, false);
            g.addPane(2, 0, 1, -1, false, true);
            Check.is("the first one is seen from behind", g.depthOf(1, 18, 13), 32768);
            Check.is("two-sided", g.depthOf(2, 18, 13), 0);
        });
        edges.of(21, DEPTH_ANSWER, "the only piece there", () -> {
            GlassRaster g = Scenes.foldedBehind(false);
            Check.is("in both", g.depthOf(0, 21, 14), 0);
            Check.is("in the second", g.depthOf(0, 20, 9), 43690);
        });
        edges.of(22, COLOUR_ANSWER, "the first piece, even if the second is nearer", () -> {
            GlassRaster g = Scenes.folded(false, true);
            Check.is("at (18, 13)", g.colourOf(0, 18, 13), 0x00FF00);
            Check.is("at (16, 14)", g.colourOf(0, 16, 14), 0x008D71);
        });
        edges.of(22, COLOUR_ANSWER, "the first piece that would be drawn", () -> {
            GlassRaster g = Scenes.folded(false, true);
            g.addPane(2, 0, 1, -1, false, false);
            g.addPane(2, 0, 1, -1, false, true);
            Check.is("the first one is seen from behind", g.colourOf(1, 18, 13), 0x00FF00);
            Check.is("two-sided", g.colourOf(2, 18, 13), 0x7F007F);
        });
    }

    private static void colourOf(Edges edges) {
        edges.of(22, COLOUR_ANSWER, "-1 without a piece there", () -> {
            GlassRaster g = Scenes.flat();
            Scenes.triangle(g, 6, 6, 0);
            g.addPane(0, 1, 2, -1, false, false);
            g.addPane(0, 2, 1, 0, false, false);
            Check.is("beside it", g.colourOf(0, 5, 6), -1);
            Check.is("on an edge that does not count", g.colourOf(0, 8, 8), -1);
            Check.is("seen from behind", g.colourOf(1, 6, 6), -1);
            g.setLens(641, 40);
            Check.is("no corners", g.colourOf(0, 6, 6), -1);
        });
        edges.of(22, COLOUR_ANSWER, "0 and 16777215 are colours", () -> {
            GlassRaster g = Scenes.flat();
            Scenes.pane(g, Scenes.triangle(g, 6, 6, 0), false);
            Scenes.pane(g, Scenes.triangle(g, 6, 6, 16777215), false);
            Check.is("black", g.colourOf(0, 7, 7), 0);
            Check.is("white", g.colourOf(1, 7, 7), 16777215);
        });
        edges.of(22, COLOUR_ANSWER, "not shown, and clear", () -> {
            GlassRaster g = Scenes.flat();
            Scenes.pane(g, Scenes.triangle(g, 6, 6, 0x123456), true);
            g.show(0, false);
            Check.is("colourOf", g.colourOf(0, 6, 6), 0x123456);
        });
        edges.of(22, MEANS, "each of r, g and b cut downwards", () -> {
            GlassRaster g = Scenes.flat();
            Scenes.corner(g, 10, 5, 0x00FF01);
            Scenes.corner(g, 14, 5, 0xFF0000);
            Scenes.corner(g, 10, 9, 0x00FF01);
            g.addPane(0, 1, 2, -1, false, false);
            Check.is("63.75, 191.25, 0.75", g.colourOf(0, 11, 5), 63 * 65536 + 191 * 256);
            Check.is("127.5, 127.5, 0.5", g.colourOf(0, 12, 5), 127 * 65536 + 127 * 256);
            Check.is("at the first corner", g.colourOf(0, 10, 5), 0x00FF01);
        });
        edges.of(22, MEANS, "what is farther weighs as much", () -> {
            GlassRaster g = Scenes.flat();
            Scenes.corner(g, 10, 5, 0);
            Scenes.farCorner(g, 14, 5, 0xFFFFFF);
            Scenes.corner(g, 10, 9, 0);
            g.addPane(0, 1, 2, -1, false, false);
            Check.is("half of the way", g.colourOf(0, 12, 5), 0x7F7F7F);
        });
        edges.of(22, NOT_WRAPPED, "the greatest area", () -> {
            GlassRaster g = Scenes.huge(0xFFFFFF, 2047, 600);
            g.setPattern(0, 7, 4, 0xABCDEF);
            g.addPane(0, 1, 2, -1, false, false);
            g.addPane(0, 1, 2, 0, false, false);
            Check.is("plain, the first point", g.colourOf(0, 0, 0), 0xFFFFFF);
            Check.is("plain, the last point", g.colourOf(0, 39, 23), 0xFFFFFF);
            Check.is("patterned, the first point", g.colourOf(1, 0, 0), 0xABCDEF);
            Check.is("patterned, the last point", g.colourOf(1, 39, 23), 0xABCDEF);
        });
    }

    /** A white pane with the same u and v everywhere; the colours of its pattern tell the place. */
    private static GlassRaster patterned(int u, int v) {
        GlassRaster g = Scenes.flat();
        for (int i = 0; i < 3; i++) {
            g.addCorner(i == 1 ? 64 : 0, i == 2 ? 64 : 0, 0, Scenes.WHITE, u, v);
        }
        g.addPane(0, 1, 2, 3, false, false);
        for (int i = 0; i < 64; i++) {
            g.setPattern(3, i % 8, i / 8, 100 * (i / 8) + i % 8);
        }
        return g;
    }

    private static void place(int u, int v, int column, int row, boolean repeats) {
        GlassRaster g = patterned(u, v);
        g.setRepeats(3, repeats);
        Check.is("u " + u + ", v " + v, g.colourOf(0, 20, 12), 100 * row + column);
    }

    private static void patternPlaces(Edges edges) {
        edges.of(22, PATTERN_PLACE, "up to 7 it neither repeats nor ends", () -> {
            boolean[] both = {false, true};
            for (boolean repeats : both) {
                place(0, 0, 0, 0, repeats);
                place(127, 128, 0, 1, repeats);
                place(128, 127, 1, 0, repeats);
                place(896, 895, 7, 6, repeats);
                place(1023, 1023, 7, 7, repeats);
            }
        });
        edges.of(22, PATTERN_PLACE, "from 8 on it repeats", () -> {
            place(1024, 0, 0, 0, true);
            place(0, 1024, 0, 0, true);
            place(1151, 1152, 0, 1, true);
            place(1152, 1151, 1, 0, true);
            place(2047, 1919, 7, 6, true);
            place(1919, 2047, 6, 7, true);
        });
        edges.of(22, PATTERN_PLACE, "from 8 on it ends", () -> {
            place(1024, 0, 7, 0, false);
            place(0, 1024, 0, 7, false);
            place(1152, 127, 7, 0, false);
            place(2047, 2047, 7, 7, false);
        });
        edges.of(22, PATTERN_PLACE, "whether it repeats is of the pattern", () -> {
            GlassRaster g = patterned(1024, 1152);
            for (int pattern = 0; pattern < 3; pattern++) {
                g.setRepeats(pattern, false);
            }
            Check.is("pattern 3 repeats still", g.colourOf(0, 20, 12), 100);
            g.setRepeats(3, false);
            Check.is("it ends", g.colourOf(0, 20, 12), 707);
        });
    }

    private static void patternMeans(Edges edges) {
        edges.of(22, PATTERN_MEANS, "cut downwards", () -> {
            GlassRaster g = patterned(127, 255);
            g.addCorner(64, 0, 0, Scenes.WHITE, 128, 256);
            g.addPane(0, 3, 2, 3, false, false);
            Check.is("127.375 and 255.375", g.colourOf(1, 21, 12), 100);
            Check.is("127.625 and 255.625", g.colourOf(1, 22, 12), 100);
            g.addPane(3, 2, 0, 3, false, false);
            Check.is("with another first corner", g.colourOf(2, 22, 12), 100);
        });
        edges.of(22, PATTERN_MEANS, "what is farther weighs less", () -> {
            GlassRaster g = patterned(0, 0);
            g.addCorner(128, 0, 640, Scenes.WHITE, 2047, 2047);
            g.addPane(0, 3, 2, 3, false, false);
            Check.is("475 rather than 767", g.colourOf(1, 21, 12), 303);
        });
        edges.of(22, PATTERN_MEANS, "three corners with the weights 103, 52 and 26", () -> {
            GlassRaster g = patterned(0, 0);
            int x = 16 * 10 + 8 - 320;
            int y = 16 * 5 + 8 - 192;
            int first = g.addCorner(x, y, 0, Scenes.WHITE, 2047, 0);
            g.addCorner(2 * (x + 64), 2 * y, 640, Scenes.WHITE, 0, 1000);
            g.addCorner(4 * x, 4 * (y + 64), 1920, Scenes.WHITE, 1000, 2047);
            g.addPane(first, first + 1, first + 2, 3, false, false);
            Check.is("the weight of the third", g.screenOf(1, 2, 3), 26);
            Check.is("u 1576, v 370", g.colourOf(1, 11, 6), 204);
        });
    }

    private static void patternOfGreatestArea(Edges edges) {
        edges.of(22, NOT_WRAPPED, "the greatest area, patterned", () -> {
            GlassRaster g = Scenes.huge(0, 0, 0);
            g.addCorner(1855, 931, 0, Scenes.WHITE, 2047, 0);
            g.addCorner(-1895, 931, 0, Scenes.WHITE, 0, 1000);
            g.addCorner(1855, -944, 0, Scenes.WHITE, 1000, 2047);
            g.addPane(3, 4, 5, 3, false, false);
            for (int i = 0; i < 64; i++) {
                g.setPattern(3, i % 8, i / 8, 100 * (i / 8) + i % 8);
            }
            Check.is("u 500, v 1523", g.colourOf(0, 0, 0), 303);
            Check.is("u 528, v 1500", g.colourOf(0, 39, 23), 304);
        });
    }

    /** The colour of a pane that has one colour in each corner and one in the whole pattern. */
    private static void times(int corner, int tint, int due) {
        GlassRaster g = Scenes.flat();
        Scenes.triangle(g, 6, 6, corner);
        g.addPane(0, 1, 2, 0, false, false);
        g.setPattern(0, 0, 0, tint);
        Check.is(Integer.toHexString(corner) + " times " + Integer.toHexString(tint),
                g.colourOf(0, 7, 7), due);
    }

    private static void patternColours(Edges edges) {
        edges.of(22, PATTERN_COLOUR, "0 and 255", () -> {
            times(0xFFFFFF, 0xFFFFFF, 0xFFFFFF);
            times(0x123456, 0xFFFFFF, 0x123456);
            times(0xFFFFFF, 0x123456, 0x123456);
            times(0xFFFFFF, 0, 0);
            times(0, 0xFFFFFF, 0);
            times(0xFF0000, 0x00FFFF, 0);
        });
        edges.of(22, PATTERN_COLOUR, "cut", () -> {
            times(0x010101, 0xFEFEFE, 0);
            times(0xFEFEFE, 0xFEFEFE, 0xFDFDFD);
            times(0x800281, 0x028081, 0x010141);
        });
        edges.of(22, PATTERN_COLOUR, "as reckoned from the corners, cut before", () -> {
            GlassRaster g = Scenes.flat();
            Scenes.corner(g, 10, 5, 0);
            Scenes.corner(g, 14, 5, 0xFF0000);
            Scenes.corner(g, 10, 9, 0);
            g.addPane(0, 1, 2, 0, false, false);
            g.setPattern(0, 0, 0, 200 * 65536);
            Check.is("63 times 200", g.colourOf(0, 11, 5), 49 * 65536);
        });
    }

    private static void refused(Edges edges) {
        edges.of(19, NO_PANE, "", () -> Refused.noSuchPane((g, pane) -> g.pointsOf(pane)));
        edges.of(20, NO_POINT, "pane", () ->
                Refused.noSuchPane((g, pane) -> g.liesIn(pane, 20, 12)));
        edges.of(20, NO_POINT, "x", () -> Refused.outside(Stage.SOME, Refused.INDEX, 0, 39,
                (g, x) -> g.liesIn(0, x, 12)));
        edges.of(20, NO_POINT, "y", () -> Refused.outside(Stage.SOME, Refused.INDEX, 0, 23,
                (g, y) -> g.liesIn(0, 20, y)));
        edges.of(21, NO_POINT, "pane", () ->
                Refused.noSuchPane((g, pane) -> g.depthOf(pane, 20, 12)));
        edges.of(21, NO_POINT, "x", () -> Refused.outside(Stage.SOME, Refused.INDEX, 0, 39,
                (g, x) -> g.depthOf(0, x, 12)));
        edges.of(21, NO_POINT, "y", () -> Refused.outside(Stage.SOME, Refused.INDEX, 0, 23,
                (g, y) -> g.depthOf(0, 20, y)));
        edges.of(22, NO_POINT, "pane", () ->
                Refused.noSuchPane((g, pane) -> g.colourOf(pane, 20, 12)));
        edges.of(22, NO_POINT, "x", () -> Refused.outside(Stage.SOME, Refused.INDEX, 0, 39,
                (g, x) -> g.colourOf(0, x, 12)));
        edges.of(22, NO_POINT, "y", () -> Refused.outside(Stage.SOME, Refused.INDEX, 0, 23,
                (g, y) -> g.colourOf(0, 20, y)));
    }
}
