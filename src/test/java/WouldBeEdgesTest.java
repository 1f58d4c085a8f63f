import java.math.BigInteger;
import java.util.ArrayList;
import java.util.List;
import java.util.function.Supplier;

/** Boundary cases of promises 32 to 37: what would be (nothing is changed). */
public final class WouldBeEdgesTest {
    private static final String UNCHANGED = "what would be (nothing is changed).";
    private static final String SEEN_ANSWER = "Returns how many points would have another colour"
            + " without it, if all was drawn now (0 of one that is not shown).";
    private static final String GREATEST_ANSWER = "Returns the shown pane with the most points"
            + " with it, if all was drawn now, of several the smallest; -1 if no point has a pane.";
    private static final String GLASS_ANSWER = "Returns how many shown clear panes paint that"
            + " point, if all is drawn now (also if another pane is painted over it behind that;"
            + " one that paints it by both its pieces counts once).";
    private static final String CHECKSUM = "A number d starts with 2459; then d becomes d * 31 + v,"
            + " which wraps around as a 64-bit integer, for each v in this order:";
    private static final String NO_PANE =
            "Throws `IndexOutOfBoundsException` if there is no such pane";
    private static final String NO_POINT =
            "Throws `IndexOutOfBoundsException` if x is not 0 to 39, or y is not 0 to 23";

    public static void main(String[] args) {
        edges().run();
    }

    static Edges edges() {
        Edges edges = new Edges();
        colourNow(edges);
        seenOf(edges);
        greatest(edges);
        greatestOfSeveral(edges);
        glassAt(edges);
        glassPaintedOver(edges);
        brightness(edges);
        digest(edges);
        nothingIsChanged(edges);
        refused(edges);
        return edges;
    }

    private static GlassRaster whole(int colour, boolean isClear) {
        GlassRaster g = Scenes.flat();
        Scenes.pane(g, Scenes.whole(g, colour), isClear);
        return g;
    }

    private static void colourNow(Edges edges) {
        edges.of(32, "Returns the colour it would have if all was drawn now.",
                "the first and the last point", () -> {
            GlassRaster g = whole(16777215, false);
            int[][] points = {{0, 0}, {39, 0}, {0, 23}, {39, 23}};
            for (int[] at : points) {
                Check.is("a pane", g.colourNow(at[0], at[1]), 16777215);
            }
            g.paint();
            g.show(0, false);
            g.setBackground(5);
            for (int[] at : points) {
                Check.is("the background, not the picture", g.colourNow(at[0], at[1]), 5);
            }
        });
        edges.of(32, "Returns the colour it would have if all was drawn now.",
                "points on edges, and both pieces", () -> {
            GlassRaster g = Scenes.flat();
            Scenes.pane(g, Scenes.triangle(g, 6, 6, 9), false);
            Check.is("an edge that counts", g.colourNow(6, 8), 9);
            Check.is("an edge that does not", g.colourNow(8, 8), 0);
            Check.is("the nearer piece", Scenes.folded(false, true).colourNow(18, 13), 0x7F007F);
            Check.is("both pieces", Scenes.folded(true, true).colourNow(18, 13), 0x3F3F3F);
        });
    }

    private static void seenOf(Edges edges) {
        edges.of(33, SEEN_ANSWER, "none, one and 960", () -> {
            GlassRaster g = whole(9, false);
            Check.is("all", g.seenOf(0), 960);
            Check.is("a point", g.colourNow(39, 23), 9);
            Check.is("a tile", g.isStale(0), true);
            Check.is("all, after a point and a tile", g.seenOf(0), 960);
            Scenes.pane(g, Scenes.dot(g, 39, 23, 7), false);
            Check.is("none of one that is not nearer", g.seenOf(1), 0);
            g.show(0, false);
            Check.is("one", g.seenOf(1), 1);
        });
        edges.of(33, SEEN_ANSWER, "one that is not shown", () -> {
            GlassRaster g = whole(9, false);
            g.paint();
            g.show(0, false);
            Check.is("though the picture has it", g.seenOf(0), 0);
            g.show(0, true);
            Check.is("shown again", g.seenOf(0), 960);
        });
        edges.of(33, SEEN_ANSWER, "another depth and pane, but the same colour", () -> {
            GlassRaster g = whole(9, false);
            g.setBackground(9);
            Check.is("of the background's colour", g.seenOf(0), 0);
            Check.is("it has points though", g.greatest(), 0);
            g.setBackground(8);
            Scenes.pane(g, 0, false);
            Check.is("the same behind it", g.seenOf(0), 0);
        });
        edges.of(33, SEEN_ANSWER, "a clear one, and what is behind a clear one", () -> {
            GlassRaster g = whole(0xFF, false);
            Scenes.triangle(g, 6, 6, 0);
            Scenes.farTriangle(g, 20, 6, 0xFF00);
            g.show(0, false);
            g.setBackground(1);
            Scenes.pane(g, 3, true);
            Check.is("half of 1 is cut to 0", g.seenOf(1), 10);
            g.setBackground(0);
            Check.is("half of 0 is 0", g.seenOf(1), 0);
        });
    }

    private static void greatest(Edges edges) {
        edges.of(34, GREATEST_ANSWER, "no point has a pane", () -> {
            Check.is("without panes", new GlassRaster().greatest(), -1);
            Check.is("clear ones alone", whole(9, true).greatest(), -1);
            GlassRaster g = whole(9, false);
            g.paint();
            g.show(0, false);
            Check.is("none is shown, though the picture has it", g.greatest(), -1);
            g.show(0, true);
            Check.is("shown", g.greatest(), 0);
            g.setLens(641, 40);
            Check.is("behind near", g.greatest(), -1);
        });
        edges.of(34, GREATEST_ANSWER, "one point is enough", () -> {
            GlassRaster g = Scenes.flat();
            Scenes.pane(g, Scenes.dot(g, 39, 23, 9), false);
            Check.is("greatest", g.greatest(), 0);
        });
        edges.of(34, GREATEST_ANSWER, "all 960 points, and the last pane", () -> {
            GlassRaster g = whole(9, false);
            Scenes.fillPanes(g);
            Check.is("the first one", g.greatest(), 0);
            for (int pane = 0; pane < 29; pane++) {
                g.show(pane, false);
            }
            Check.is("the last one", g.greatest(), 29);
        });
    }

    private static void greatestOfSeveral(Edges edges) {
        edges.of(34, GREATEST_ANSWER, "of several the smallest", () -> {
            GlassRaster g = Scenes.flat();
            Scenes.pane(g, Scenes.triangle(g, 2, 2, 9), false);
            Scenes.pane(g, Scenes.triangle(g, 20, 2, 9), false);
            Scenes.pane(g, Scenes.triangle(g, 2, 12, 9), false);
            Check.is("of three", g.greatest(), 0);
            g.show(0, false);
            Check.is("of two", g.greatest(), 1);
        });
        edges.of(34, GREATEST_ANSWER, "one point more", () -> {
            GlassRaster g = Scenes.flat();
            Scenes.pane(g, Scenes.dot(g, 2, 2, 9), false);
            Scenes.pane(g, Scenes.triangle(g, 2, 2, 9), false);
            Scenes.pane(g, Scenes.triangle(g, 20, 2, 9), false);
            Check.is("ten rather than nine", g.greatest(), 2);
            g.show(0, false);
            Check.is("ten each", g.greatest(), 1);
        });
        edges.of(34, GREATEST_ANSWER, "points that another pane is painted over", () -> {
            GlassRaster g = whole(9, false);
            g.moveCorner(0, -2000, -2000, 640);
            g.moveCorner(1, 2000, -2000, 640);
            g.moveCorner(2, 0, 2000, 640);
            Scenes.pane(g, Scenes.whole(g, 9), false);
            Check.is("lies in both", g.pointsOf(0), 960);
            Check.is("the nearer one", g.greatest(), 1);
        });
    }

    private static void glassAt(Edges edges) {
        edges.of(35, GLASS_ANSWER, "none, one and 30", () -> {
            Check.is("without panes", new GlassRaster().glassAt(0, 0), 0);
            GlassRaster g = whole(9, true);
            int[][] points = {{0, 0}, {39, 0}, {0, 23}, {39, 23}};
            for (int pane = 1; pane < 30; pane++) {
                g.addPane(0, 1, 2, -1, true, false);
            }
            for (int[] at : points) {
                Check.is("30", g.glassAt(at[0], at[1]), 30);
            }
            for (int pane = 0; pane < 29; pane++) {
                g.show(pane, false);
            }
            Check.is("one is shown", g.glassAt(39, 23), 1);
            g.show(29, false);
            Check.is("none is shown", g.glassAt(39, 23), 0);
        });
        edges.of(35, GLASS_ANSWER, "one that is not clear", () -> {
            GlassRaster g = whole(9, false);
            Check.is("glassAt", g.glassAt(20, 12), 0);
        });
        edges.of(35, GLASS_ANSWER, "beside it, and on its edges", () -> {
            GlassRaster g = Scenes.flat();
            Scenes.pane(g, Scenes.triangle(g, 6, 6, 9), true);
            Check.is("an edge that counts", g.glassAt(6, 8), 1);
            Check.is("an edge that does not", g.glassAt(8, 8), 0);
            int[][] beside = {{5, 6}, {5, 9}, {10, 6}, {6, 5}, {9, 5}, {6, 10}, {9, 9}};
            for (int[] at : beside) {
                Check.is("beside it", g.glassAt(at[0], at[1]), 0);
            }
        });
        edges.of(35, GLASS_ANSWER, "by both its pieces", () -> {
            Check.is("both, the second is nearer", Scenes.folded(true, true).glassAt(18, 13), 1);
            GlassRaster g = Scenes.foldedBehind(true);
            Check.is("both, the first is nearer", g.glassAt(21, 3), 1);
            Check.is("the first alone", g.glassAt(21, 16), 1);
            Check.is("the second alone", g.glassAt(20, 9), 1);
        });
    }

    private static void glassPaintedOver(Edges edges) {
        edges.of(35, GLASS_ANSWER, "another pane is painted over it behind that", () -> {
            GlassRaster g = Scenes.flat();
            Scenes.farTriangle(g, 6, 6, 9);
            Scenes.triangle(g, 6, 6, 9);
            g.addPane(0, 1, 2, -1, true, false);
            g.addPane(3, 4, 5, -1, false, false);
            Check.is("it was painted", g.glassAt(6, 6), 1);
        });
        edges.of(35, GLASS_ANSWER, "one that is not nearer does not paint", () -> {
            GlassRaster g = Scenes.flat();
            Scenes.triangle(g, 6, 6, 9);
            Scenes.farTriangle(g, 6, 6, 9);
            g.addPane(0, 1, 2, -1, false, false);
            g.addPane(3, 4, 5, -1, true, false);
            Check.is("farther", g.glassAt(6, 6), 0);
            g.addPane(0, 1, 2, -1, true, false);
            Check.is("of the same depth", g.glassAt(6, 6), 0);
            g.show(0, false);
            Check.is("without that", g.glassAt(6, 6), 2);
        });
        edges.of(35, GLASS_ANSWER, "only the second of its pieces is nearer", () -> {
            GlassRaster g = Scenes.folded(false, true);
            g.show(0, false);
            g.addCorner(-1500, -1500, 3, 9, 0, 0);
            g.addCorner(1500, -1500, 3, 9, 0, 0);
            g.addCorner(0, 1500, 3, 9, 0, 0);
            g.addPane(3, 4, 5, -1, false, false);
            g.addPane(0, 1, 2, -1, true, true);
            Check.is("the pane behind", g.depthOf(1, 18, 13), 21845);
            Check.is("its first piece", g.depthOf(2, 18, 13), 32768);
            Check.is("its second piece paints", g.glassAt(18, 13), 1);
            Check.is("only that", g.colourNow(18, 13), 0x3F0044);
        });
    }

    private static void brightness(Edges edges) {
        edges.of(36, "Returns the mean of r + g + b of all points of the picture, not cut.",
                "the least and the most", () -> {
            GlassRaster g = whole(0xFFFFFF, false);
            Check.is("white, if it was drawn now", g.stale(), 15);
            Check.isDouble("black", g.brightness(), 0.0);
            g.paint();
            Check.isDouble("white", g.brightness(), 765.0);
            g.show(0, false);
            Check.isDouble("of the picture", g.brightness(), 765.0);
        });
        edges.of(36, "Returns the mean of r + g + b of all points of the picture, not cut.",
                "not cut", () -> {
            int[] one = {0x010000, 0x000100, 0x000001};
            for (int colour : one) {
                GlassRaster g = Scenes.flat();
                Scenes.pane(g, Scenes.dot(g, 39, 23, colour), false);
                g.paint();
                Check.isDouble("one point with 1", g.brightness(), 1.0 / 960.0);
            }
            GlassRaster g = Scenes.flat();
            Scenes.pane(g, Scenes.dot(g, 0, 0, 0xFFFFFE), false);
            g.setBackground(0xFFFFFF);
            g.paint();
            Check.isDouble("one point with one less", g.brightness(), 734399.0 / 960.0);
        });
        edges.of(36, "Returns the mean of r + g + b of all points of the picture, not cut.",
                "all points different", () ->
                Check.isDouble("r 117 at most, g 69", PictureEdgesTest.allDifferent().brightness(),
                        93.0));
    }

    /** The checksum of what the other calls answer, each object asked less than 512 times. */
    static long digestOf(Supplier<GlassRaster> scene) {
        List<Integer> values = new ArrayList<>();
        GlassRaster first = scene.get();
        values.addAll(List.of(first.corners(), first.panes(), first.stale()));
        for (int i = 0; i < first.corners(); i++) {
            values.addAll(List.of(first.seen(i, 0), first.seen(i, 1), first.seen(i, 2)));
        }
        for (int i = 0; i < first.panes(); i++) {
            GlassRaster g = scene.get();
            values.addAll(List.of(g.polygonOf(i), g.piecesOf(i), g.pointsOf(i), g.pointsWith(i)));
            for (int k = 0; k < g.polygonOf(i); k++) {
                for (int what = 0; what < 4; what++) {
                    values.add(g.screenOf(i, k, what));
                }
            }
        }
        values.add(first.colours());
        for (int y = 0; y < 24; y++) {
            GlassRaster g = scene.get();
            for (int x = 0; x < 40; x++) {
                values.addAll(List.of(g.colourAt(x, y), g.depthAt(x, y), g.paneAt(x, y)));
            }
        }
        BigInteger d = BigInteger.valueOf(2459);
        for (int value : values) {
            d = d.multiply(BigInteger.valueOf(31)).add(BigInteger.valueOf(value));
        }
        return d.longValue();
    }

    private static void sum(String what, Supplier<GlassRaster> scene) {
        GlassRaster g = scene.get();
        long due = digestOf(scene);
        Check.is(what, g.digest(), due);
        Check.is(what + ", again", g.digest(), due);
    }

    private static void digest(Edges edges) {
        edges.of(37, CHECKSUM, "no corners and no panes", () -> sum("new", GlassRaster::new));
        edges.of(37, CHECKSUM, "corners, no panes", () -> sum("corners", () -> {
            GlassRaster g = new GlassRaster();
            g.addCorner(-2000, 2000, -2000, 16777215, 2047, 2047);
            return g;
        }));
        edges.of(37, CHECKSUM, "40 corners and 30 panes", () -> sum("full", Stage.FULL::make));
        edges.of(37, CHECKSUM, "some stale, some not", () -> sum("some", Stage.SOME::make));
        edges.of(37, "Returns d.", "more than 32 bits of it", () -> {
            long d = Stage.SOME.make().digest();
            Check.holds("it is " + d, d != (int) d);
            Check.is("digest", d, digestOf(Stage.SOME::make));
        });
        edges.of(37, "and for each corner of its polygon screenOf() of 0, 1, 2 and 3;",
                "a polygon of none, of three and of four", () -> {
            sum("none", () -> Scenes.spot(100, 40, 0, 0, 99));
            sum("three", () -> Scenes.spot(100, 40, 0, 0, 100));
            sum("four", () -> Scenes.square(10, 5, true));
        });
        edges.of(37, "and for each corner of its polygon screenOf() of 0, 1, 2 and 3;",
                "beyond 30000 and -30000", () -> {
            sum("beyond 30000", () -> Scenes.spot(1, 500, 5000, 5000, 1));
            sum("beyond -30000", () -> Scenes.spot(1, 500, -5000, -5000, 1));
        });
        edges.of(37, "colours(); then for each point, line by line, colourAt(), depthAt(),"
                + " paneAt().", "every point another colour", () ->
                sum("all different", PictureEdgesTest::allDifferent));
    }

    private static void nothingIsChanged(Edges edges) {
        edges.of(32, UNCHANGED, "colourNow", () ->
                Refused.nothingChangedBy("colourNow", g -> g.colourNow(20, 12)));
        edges.of(33, UNCHANGED, "seenOf", () ->
                Refused.nothingChangedBy("seenOf", g -> g.seenOf(0)));
        edges.of(34, UNCHANGED, "greatest", () ->
                Refused.nothingChangedBy("greatest", g -> g.greatest()));
        edges.of(35, UNCHANGED, "glassAt", () ->
                Refused.nothingChangedBy("glassAt", g -> g.glassAt(20, 12)));
        edges.of(36, UNCHANGED, "brightness", () ->
                Refused.nothingChangedBy("brightness", g -> g.brightness()));
        edges.of(37, UNCHANGED, "digest", () ->
                Refused.nothingChangedBy("digest", g -> g.digest()));
    }

    private static void refused(Edges edges) {
        edges.of(32, NO_POINT, "x", () -> Refused.outside(Stage.SOME, Refused.INDEX, 0, 39,
                (g, x) -> g.colourNow(x, 12)));
        edges.of(32, NO_POINT, "y", () -> Refused.outside(Stage.SOME, Refused.INDEX, 0, 23,
                (g, y) -> g.colourNow(20, y)));
        edges.of(33, NO_PANE, "", () -> Refused.noSuchPane((g, pane) -> g.seenOf(pane)));
        edges.of(35, NO_POINT, "x", () -> Refused.outside(Stage.SOME, Refused.INDEX, 0, 39,
                (g, x) -> g.glassAt(x, 12)));
        edges.of(35, NO_POINT, "y", () -> Refused.outside(Stage.SOME, Refused.INDEX, 0, 23,
                (g, y) -> g.glassAt(20, y)));
    }
}
