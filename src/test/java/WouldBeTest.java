/** Promises 32 to 37: what would be (nothing is changed). */
public final class WouldBeTest {
    public static void main(String[] args) {
        colourNow();
        seenOf();
        greatest();
        glassAt();
        glassOfBothPieces();
        brightness();
        digest();
        nothingIsChanged();
        wrongInputs();
        Check.finish();
    }

    private static void colourNow() {
        for (int y = 0; y < 24; y++) {
            GlassRaster one = blueOverGreen();
            for (int x = 0; x < 40; x++) {
                Check.is("colourNow", one.colourNow(x, y),
                        Scenes.inTriangle(6, 6, x, y) ? 0x007F7F : 4);
            }
        }
        GlassRaster g = blueOverGreen();
        Check.is("the picture stays", g.colourAt(6, 6), 0);
        g.show(0, false);
        Check.is("without the far one", g.colourNow(6, 6), 0x81);
    }

    private static GlassRaster blueOverGreen() {
        GlassRaster g = Scenes.flat();
        g.setBackground(4);
        Scenes.triangle(g, 6, 6, 0xFF);
        Scenes.farTriangle(g, 6, 6, 0x00FF00);
        g.addPane(3, 4, 5, -1, false, false);
        g.addPane(0, 1, 2, -1, true, false);
        return g;
    }

    private static void seenOf() {
        GlassRaster g = Scenes.flat();
        Scenes.triangle(g, 6, 6, 0xFF);
        Scenes.farTriangle(g, 6, 6, 0x00FF00);
        g.addPane(3, 4, 5, -1, false, false);
        Check.is("alone", g.seenOf(0), 10);
        g.addPane(0, 1, 2, -1, false, false);
        Check.is("behind another", g.seenOf(0), 0);
        Check.is("in front", g.seenOf(1), 10);
        g.addPane(0, 1, 2, -1, false, false);
        Check.is("one of two of the same", g.seenOf(1), 0);
        Check.is("the other of two", g.seenOf(2), 0);
        g.show(2, false);
        Check.is("one that is not shown", g.seenOf(2), 0);
        Check.is("without that", g.seenOf(1), 10);
        g.show(1, false);
        g.addPane(0, 1, 2, -1, true, false);
        Check.is("through a clear one", g.seenOf(0), 10);
        Check.is("the clear one", g.seenOf(3), 10);
        g.show(0, false);
        g.setBackground(0xFF);
        Check.is("of the background's colour", g.seenOf(3), 0);
        Scenes.dot(g, 0, 0, 1);
        Scenes.dot(g, 39, 23, 1);
        Scenes.pane(g, 6, false);
        Scenes.pane(g, 9, true);
        Check.is("the first point alone", g.seenOf(4), 1);
        Check.is("the last point alone", g.seenOf(5), 1);
        Check.is("nothing is drawn", g.pointsWith(0), 0);
    }

    private static void greatest() {
        GlassRaster g = Scenes.flat();
        Check.is("without panes", g.greatest(), -1);
        Scenes.triangle(g, 2, 2, 0xFF);
        Scenes.triangle(g, 20, 2, 0xFF);
        Scenes.corner(g, 20, 12, 0xFF);
        g.addPane(0, 1, 2, -1, true, false);
        Check.is("clear ones have no points", g.greatest(), -1);
        g.addPane(0, 1, 2, -1, false, false);
        g.addPane(3, 4, 5, -1, false, false);
        Check.is("of several the smallest", g.greatest(), 1);
        g.addPane(3, 4, 6, -1, false, false);
        Check.is("what is behind another counts less", g.greatest(), 3);
        g.show(3, false);
        g.show(1, false);
        Check.is("of those that are shown", g.greatest(), 2);
        g.show(2, false);
        Check.is("none is shown", g.greatest(), -1);
        Scenes.dot(g, 30, 20, 0xFF);
        g.addPane(7, 8, 9, -1, false, false);
        Check.is("one point is enough", g.greatest(), 4);
        Check.is("once more", g.greatest(), 4);
        g.show(4, false);
        for (int i = 5; i < 30; i++) {
            g.addPane(3, 4, 6, -1, false, false);
            g.show(i, false);
        }
        g.show(29, true);
        Check.is("the last one", g.greatest(), 29);
        Check.is("the picture stays", g.paneAt(20, 2), -1);
        GlassRaster one = Scenes.flat();
        Scenes.triangle(one, 2, 2, 0xFF);
        Scenes.pane(one, 0, false);
        Check.is("the first one", one.greatest(), 0);
    }

    private static void glassAt() {
        GlassRaster g = Scenes.flat();
        Scenes.triangle(g, 6, 6, 0xFF);
        Scenes.farTriangle(g, 6, 6, 0x00FF00);
        Check.is("without panes", g.glassAt(6, 6), 0);
        g.addPane(0, 1, 2, -1, true, false);
        g.addPane(3, 4, 5, -1, true, false);
        Check.is("two", g.glassAt(6, 6), 2);
        int[][] beside = {{5, 6}, {10, 6}, {6, 5}, {6, 10}, {9, 9}, {12, 6}, {6, 12}};
        for (int[] at : beside) {
            Check.is("beside them", g.glassAt(at[0], at[1]), 0);
        }
        g.addPane(3, 4, 5, -1, false, false);
        Check.is("painted over behind that", g.glassAt(6, 6), 2);
        g.addPane(3, 4, 5, -1, true, false);
        Check.is("one that is not in front does not paint", g.glassAt(6, 6), 2);
        g.addPane(0, 1, 2, -1, true, false);
        Check.is("one that is", g.glassAt(6, 6), 3);
        g.show(0, false);
        Check.is("one is not shown", g.glassAt(6, 6), 2);
        Check.is("nothing is drawn", g.colourAt(6, 6), 0);
    }

    /**
     * Numbers cut downwards just in front of the camera fold this pane, so that its pieces have
     * twelve points in common; the corners were searched for with {@link PlainRaster}.
     */
    private static void glassOfBothPieces() {
        int[][] places = {{2, 6, 3}, {1, -6, -2}, {1, -5, 6}};
        GlassRaster g = new GlassRaster();
        PlainRaster plain = new PlainRaster();
        g.setCamera(2, 0, 0, 1024, 0);
        plain.setCamera(2, 0, 0, 1024, 0);
        g.setLens(2, 3);
        plain.setLens(2, 3);
        for (int[] at : places) {
            int colour = 0xFF << 8 * g.corners();
            g.addCorner(at[0], at[1], at[2], colour, 0, 0);
            plain.addCorner(at[0], at[1], at[2], colour, 0, 0);
        }
        g.addPane(0, 1, 2, -1, true, true);
        plain.addPane(0, 1, 2, -1, true, true);
        PlainRaster.Piece first = plain.pieces(0).get(0);
        PlainRaster.Piece second = plain.pieces(0).get(1);
        int both = 0;
        for (int i = 0; i < 960; i++) {
            int x = i % 40;
            int y = i / 40;
            long[] weights = PlainRaster.weights(first, x, y);
            if (weights != null && PlainRaster.weights(second, x, y) != null) {
                both++;
                Check.is("glass of both pieces", g.glassAt(x, y), 1);
                Check.is("the depth of the first piece", g.depthOf(0, x, y),
                        PlainRaster.depth(first, weights));
                Check.is("colourNow of both pieces", g.colourNow(x, y), plain.colourNow(x, y));
            }
        }
        Check.is("points in both pieces", both, 12);
        Check.is("two pieces", g.piecesOf(0), 2);
        Check.is("a point in both is counted once", g.pointsOf(0), 15);
    }

    private static void brightness() {
        GlassRaster g = Scenes.flat();
        Check.isDouble("black", g.brightness(), 0.0);
        g.setBackground(0x010203);
        Check.isDouble("of the picture", g.brightness(), 0.0);
        g.clear();
        Check.isDouble("of the background", g.brightness(), 6.0);
        g.setBackground(0xFFFFFF);
        g.clear();
        Check.isDouble("white", g.brightness(), 765.0);
        Scenes.triangle(g, 6, 6, 0x00FE00);
        Scenes.pane(g, 0, false);
        g.paint();
        Check.isDouble("not cut", g.brightness(), (765.0 * 950 + 254.0 * 10) / 960);
    }

    private static void digest() {
        for (int steps = 0; steps <= 5; steps++) {
            int upTo = steps;
            long due = WouldBeEdgesTest.digestOf(() -> digestScene(upTo));
            GlassRaster g = digestScene(steps);
            Check.is("digest after step " + steps, g.digest(), due);
            Check.is("digest again", g.digest(), due);
        }
        Check.holds("something is stale", digestScene(2).stale() > 0);
    }

    /** Corners, panes, a picture, one not shown, a cleared picture: as many of these as steps. */
    private static GlassRaster digestScene(int steps) {
        GlassRaster g = new GlassRaster();
        if (steps >= 1) {
            g.addCorner(-150, -100, -450, 16711680, 0, 0);
            g.addCorner(150, -100, 0, 65280, 2047, 0);
            g.addCorner(0, 120, 100, 255, 1024, 2047);
            g.addCorner(0, -200, 100, 16777215, 0, 1024);
        }
        if (steps >= 2) {
            g.addPane(0, 1, 2, -1, false, true);
            g.addPane(3, 2, 0, 0, false, true);
            g.addPane(1, 2, 3, -1, true, true);
        }
        if (steps >= 3) {
            g.paint();
        }
        if (steps >= 4) {
            g.show(1, false);
        }
        if (steps >= 5) {
            g.setBackground(0xABCDEF);
            g.clear();
        }
        return g;
    }

    private static void nothingIsChanged() {
        GlassRaster g = Scenes.flat();
        Scenes.triangle(g, 6, 6, 0xFF);
        Scenes.pane(g, 0, true);
        Scenes.pane(g, 0, false);
        long before = g.digest();
        g.colourNow(6, 6);
        g.seenOf(1);
        g.greatest();
        g.glassAt(6, 6);
        g.brightness();
        g.digest();
        g.stale();
        g.isStale(0);
        Check.is("the digest stays", g.digest(), before);
        Check.is("the picture stays", g.paneAt(6, 6), -1);
    }

    private static void wrongInputs() {
        GlassRaster g = Scenes.flat();
        Scenes.triangle(g, 0, 0, 5);
        Scenes.pane(g, 0, true);
        int[][] wrong = {{-1, 0}, {40, 0}, {0, -1}, {0, 24}, {Integer.MIN_VALUE, 0},
            {Integer.MAX_VALUE, 0}, {0, Integer.MIN_VALUE}, {0, Integer.MAX_VALUE}, {-40, 1}};
        for (int[] w : wrong) {
            Check.refusesIndex(g, "colourNow", () -> g.colourNow(w[0], w[1]));
            Check.refusesIndex(g, "glassAt", () -> g.glassAt(w[0], w[1]));
        }
        Check.refusesIndex(g, "seenOf(-1)", () -> g.seenOf(-1));
        Check.refusesIndex(g, "seenOf(1)", () -> g.seenOf(1));
    }
}
