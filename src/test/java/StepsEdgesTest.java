/** Boundary cases of promises 14 to 18: from corners to pieces. */
public final class StepsEdgesTest {
    private static final String COMES_TO = "A corner comes to X = ((a * x + b * y + c * z) >> 10)"
            + " + t, by the row for X; Y and Z likewise.";
    private static final String NEAR_OR_MORE = "A corner whose Z is near or more is in the"
            + " polygon.";
    private static final String ONE_MORE = "If just one of a corner and the next one is so, there"
            + " is one more corner in the polygon, behind the first one of them (or in its place,"
            + " if that is not in it):";
    private static final String BETWEEN = "with p the one of both whose Z is near or more, and q"
            + " the other one: each of X, Y, u, v, r, g, b is p + ((q - p) * (Z of p - near)) // (Z"
            + " of p - Z of q), with p and q its numbers of both; its Z is near.";
    private static final String PIECES = "A polygon with no corners gives no pieces; with three"
            + " one piece, these; with four (first to fourth) two: the first, second and third,"
            + " and the first, third and fourth.";
    private static final String ON_SCREEN = "On the screen a corner lies at sx = 320 + (16 * focus"
            + " * X) // Z, sy = 192 + (16 * focus * Y) // Z (sixteenths of a point; x to the right,"
            + " y downwards), with the depth 65535 - (65535 * near) // Z, and the weight"
            + " q = 65536 // Z + 1.";
    private static final String LEFT_OUT = "A piece is left out if sx or sy of a corner is less"
            + " than -30000 or more than 30000.";
    private static final String SCREEN_ANSWER = "Returns that number of it; of sx and sy -30001 if"
            + " it is less than -30000, and 30001 if it is more than 30000.";
    private static final String PIECES_ANSWER = "Returns how many pieces of it would be drawn if"
            + " it was shown: those that are not left out, have an area, and are not seen from"
            + " behind, if it is not two-sided.";
    private static final String NO_PANE =
            "Throws `IndexOutOfBoundsException` if there is no such pane";

    public static void main(String[] args) {
        edges().run();
    }

    static Edges edges() {
        Edges edges = new Edges();
        seen(edges);
        polygonOf(edges);
        cornersInOrder(edges);
        cutNumbers(edges);
        cornerOfRefused(edges);
        screenOf(edges);
        screenOfLimits(edges);
        screenOfRefused(edges);
        piecesOfPolygons(edges);
        piecesByArea(edges);
        piecesLeftOut(edges);
        fourCornersFarOut(edges);
        return edges;
    }

    private static void seen(Edges edges) {
        edges.of(14, COMES_TO, "the sum is cut once, ahead of t", () -> {
            int[][] places = {{-1, -1, -1}, {512, 512, 0}, {341, 341, 341}, {342, 341, 341},
                {0, 0, 0}};
            int[] due = {4, 6, 5, 6, 5};
            for (int row = 0; row < 3; row++) {
                GlassRaster g = new GlassRaster();
                g.setCamera(row, 1, 1, 1, 5);
                for (int i = 0; i < due.length; i++) {
                    g.addCorner(places[i][0], places[i][1], places[i][2], 0, 0, 0);
                    Check.is("seen(" + i + ", " + row + ")", g.seen(i, row), due[i]);
                }
            }
        });
        edges.of(14, COMES_TO, "as far out as it can be", () -> {
            for (int row = 0; row < 3; row++) {
                GlassRaster g = new GlassRaster();
                g.addCorner(2000, -2000, 2000, 0, 0, 0);
                g.setCamera(row, 4096, -4096, 4096, 5000);
                Check.is("most", g.seen(0, row), 29000);
                g.setCamera(row, -4096, 4096, -4096, -5000);
                Check.is("least", g.seen(0, row), -29000);
            }
        });
        edges.of(14, "a // b is a by b, cut downwards (towards less), a / b (of numbers that are"
                + " not less than 0) likewise; >> 10 is // 1024.", "about 0 and 1024", () -> {
            GlassRaster g = new GlassRaster();
            g.setCamera(0, 1, 0, 0, 0);
            g.addCorner(0, 0, 0, 0, 0, 0);
            int[] x = {-1025, -1024, -1023, -1, 0, 1, 1023, 1024};
            int[] due = {-2, -1, -1, -1, 0, 0, 0, 1};
            for (int i = 0; i < x.length; i++) {
                g.moveCorner(0, x[i], 0, 0);
                Check.is("with " + x[i], g.seen(0, 0), due[i]);
            }
        });
        edges.of(14, "Returns that number of it.", "the first and the last corner", () -> {
            GlassRaster g = new GlassRaster();
            for (int i = 0; i < 40; i++) {
                g.addCorner(i, 2 * i, 3 * i, 0, 0, 0);
            }
            int[] corners = {0, 39};
            for (int corner : corners) {
                Check.is("X", g.seen(corner, 0), corner);
                Check.is("Y", g.seen(corner, 1), 2 * corner);
                Check.is("Z", g.seen(corner, 2), 3 * corner + 500);
            }
        });
        edges.of(14, "Throws `IndexOutOfBoundsException` if there is no such corner, or row is"
                + " not 0 to 2", "corner", () -> {
            Refused.noSuchCorner((g, corner) -> g.seen(corner, 0));
            Refused.noSuchCorner((g, corner) -> g.seen(corner, 2));
        });
        edges.of(14, "Throws `IndexOutOfBoundsException` if there is no such corner, or row is"
                + " not 0 to 2", "row", () -> Refused.outside(Stage.SOME, Refused.INDEX, 0, 2,
                (g, row) -> g.seen(0, row)));
    }

    /** The X of its corners are 0, 40 and 100; near is 100. */
    private static GlassRaster cut(int firstZ, int secondZ, int thirdZ) {
        GlassRaster g = new GlassRaster();
        g.addCorner(0, 10, firstZ - 500, 0, 0, 0);
        g.addCorner(40, 20, secondZ - 500, 0, 0, 0);
        g.addCorner(100, 40, thirdZ - 500, 0, 0, 0);
        g.addPane(0, 1, 2, -1, false, false);
        return g;
    }

    private static void polygonOf(Edges edges) {
        edges.of(15, NEAR_OR_MORE, "Z of near is in, one less is not", () -> {
            Check.is("all in", cut(100, 100, 100).polygonOf(0), 3);
            Check.is("the first is not", cut(99, 100, 100).polygonOf(0), 4);
            Check.is("the second is not", cut(100, 99, 100).polygonOf(0), 4);
            Check.is("the third is not", cut(100, 100, 99).polygonOf(0), 4);
            Check.is("only the first is", cut(100, 99, 99).polygonOf(0), 3);
            Check.is("none is", cut(99, 99, 99).polygonOf(0), 0);
        });
        edges.of(15, NEAR_OR_MORE, "the least and the most near", () -> {
            Check.is("near 1, Z 1", Scenes.spot(1, 40, 0, 0, 1).polygonOf(0), 3);
            Check.is("near 1, Z 0", Scenes.spot(1, 40, 0, 0, 0).polygonOf(0), 0);
            Check.is("near 1, Z -5000", Scenes.spot(1, 40, 0, 0, -5000).polygonOf(0), 0);
            Check.is("near 1000, Z 1000", Scenes.spot(1000, 40, 0, 0, 1000).polygonOf(0), 3);
            Check.is("near 1000, Z 999", Scenes.spot(1000, 40, 0, 0, 999).polygonOf(0), 0);
        });
        edges.of(15, ONE_MORE, "none, one, two and three in front", () -> {
            Check.is("none", cut(0, 0, 0).polygonOf(0), 0);
            Check.is("the first", cut(200, 0, 0).polygonOf(0), 3);
            Check.is("the second", cut(0, 200, 0).polygonOf(0), 3);
            Check.is("the third", cut(0, 0, 200).polygonOf(0), 3);
            Check.is("not the first", cut(0, 200, 200).polygonOf(0), 4);
            Check.is("not the second", cut(200, 0, 200).polygonOf(0), 4);
            Check.is("not the third", cut(200, 200, 0).polygonOf(0), 4);
            Check.is("all", cut(200, 200, 200).polygonOf(0), 3);
        });
        edges.of(15, "Returns how many corners its polygon has, shown or not.", "not shown", () -> {
            GlassRaster g = cut(200, 200, 0);
            g.show(0, false);
            Check.is("polygonOf", g.polygonOf(0), 4);
        });
        edges.of(15, NO_PANE, "", () -> Refused.noSuchPane((g, pane) -> g.polygonOf(pane)));
    }

    private static void order(GlassRaster g, int... due) {
        Check.is("how many", g.polygonOf(0), due.length);
        for (int k = 0; k < due.length; k++) {
            Check.is("X of " + k, g.cornerOf(0, k, 0), due[k]);
        }
    }

    private static void cornersInOrder(Edges edges) {
        edges.of(16, ONE_MORE, "behind the first one of them", () -> {
            order(cut(200, 0, 200), 0, 20, 70, 100);
            order(cut(200, 200, 0), 0, 40, 70, 50);
            order(cut(200, 0, 0), 0, 20, 50);
        });
        edges.of(16, ONE_MORE, "in its place, if that is not in it", () -> {
            order(cut(0, 200, 0), 20, 40, 70);
            order(cut(0, 0, 200), 70, 100, 50);
        });
        edges.of(16, "its corners are gone through in order, each with the next one (behind the"
                + " third one the first one).", "the third one and the first one", () -> {
            order(cut(0, 200, 200), 20, 40, 100, 50);
            order(cut(200, 200, 200), 0, 40, 100);
        });
    }

    private static void cutNumbers(Edges edges) {
        edges.of(16, BETWEEN, "two thirds of the way, cut downwards", () -> {
            GlassRaster g = new GlassRaster();
            g.addCorner(0, 5, -300, 0x0A0A0A, 7, 7);
            g.addCorner(-1, 6, -450, 0x090B08, 6, 8);
            g.addCorner(1, 4, -450, 0x0B090C, 8, 6);
            g.addPane(0, 1, 2, -1, false, false);
            int[][] due = {{0, 5, 200, 7, 7, 0x0A0A0A}, {-1, 5, 100, 6, 7, 0x090A08},
                {0, 4, 100, 7, 6, 0x0A090B}};
            for (int k = 0; k < 3; k++) {
                for (int what = 0; what < 6; what++) {
                    Check.is("cornerOf(0, " + k + ", " + what + ")", g.cornerOf(0, k, what),
                            due[k][what]);
                }
            }
        });
        edges.of(16, BETWEEN, "p at near is the cut corner itself", () -> {
            order(cut(100, 0, 0), 0, 0, 0);
            order(cut(100, 99, 99), 0, 0, 0);
            order(cut(99, -2000 + 500, 100), 100, 100, 100);
        });
        edges.of(16, BETWEEN, "p one in front of near, q one behind it", () -> {
            order(cut(101, 99, 99), 0, 20, 50);
            order(cut(100, 101, 99), 0, 40, 70, 0);
        });
        edges.of(16, BETWEEN, "its Z is near, the least and the most", () -> {
            int[] nears = {1, 99, 1000};
            for (int near : nears) {
                GlassRaster g = cut(2000, -1000, -1000);
                g.setLens(near, 40);
                Check.is("Z of the first", g.cornerOf(0, 0, 2), 2000);
                Check.is("Z of the second", g.cornerOf(0, 1, 2), near);
                Check.is("Z of the third", g.cornerOf(0, 2, 2), near);
            }
        });
        edges.of(16, BETWEEN, "from one end of space to the other", () -> {
            GlassRaster g = new GlassRaster();
            g.setLens(1, 40);
            for (int row = 0; row < 3; row++) {
                g.setCamera(row, 4096, 4096, 4096, row == 2 ? 5000 : 0);
            }
            g.addCorner(2000, 2000, 2000, 0xFFFFFF, 2047, 0);
            g.addCorner(-2000, -2000, -2000, 0, 0, 2047);
            g.addCorner(2000, 2000, 1999, 0, 0, 0);
            g.addPane(0, 1, 2, -1, false, false);
            // The cut corner lies 28999 of 48000 parts of the way on.
            int[] due = {-4999, -4999, 1, 2047 - 1237, 1236, 0x646464};
            for (int what = 0; what < 6; what++) {
                Check.is("cornerOf(0, 1, " + what + ")", g.cornerOf(0, 1, what), due[what]);
            }
        });
    }

    private static void cornerOfRefused(Edges edges) {
        String refused = "Throws `IndexOutOfBoundsException` if there is no such pane or corner of"
                + " it, or what is not 0 to 5";
        edges.of(16, refused, "pane", () ->
                Refused.noSuchPane((g, pane) -> g.cornerOf(pane, 0, 0)));
        edges.of(16, refused, "corner of it", () -> {
            for (int what = 0; what < 6; what++) {
                int of = what;
                noSuchEnd((g, k) -> g.cornerOf(0, k, of));
            }
            Refused.outside(Stage.SOME, Refused.INDEX, 0, 2, (g, k) -> g.cornerOf(1, k, 0));
        });
        edges.of(16, refused, "what", () -> Refused.outside(Stage.SOME, Refused.INDEX, 0, 5,
                (g, what) -> g.cornerOf(0, 0, what)));
        edges.of(16, "Returns that number of it.", "each of the six", () -> {
            GlassRaster g = new GlassRaster();
            for (int i = 0; i < 3; i++) {
                g.addCorner(11, 12, 13, 0x161718, 14, 15);
            }
            g.addPane(0, 1, 2, -1, false, false);
            int[] due = {11, 12, 513, 14, 15, 0x161718};
            for (int what = 0; what < 6; what++) {
                Check.is("cornerOf(0, 2, " + what + ")", g.cornerOf(0, 2, what), due[what]);
            }
        });
    }

    /** A polygon with none, three and four corners has no fourth or fifth one. */
    private static void noSuchEnd(java.util.function.ObjIntConsumer<GlassRaster> call) {
        GlassRaster[] scenes = {cut(0, 0, 0), cut(200, 200, 200), cut(200, 0, 0),
            cut(200, 200, 0)};
        int[] due = {0, 3, 3, 4};
        int[] wrong = {Integer.MIN_VALUE, -1, 5, Integer.MAX_VALUE};
        for (int i = 0; i < due.length; i++) {
            GlassRaster g = scenes[i];
            for (int k = 0; k < 5; k++) {
                int of = k;
                if (k < due[i]) {
                    call.accept(g, k);
                } else {
                    Check.refusesIndex(g, k + " of " + due[i], () -> call.accept(g, of));
                }
            }
            for (int k : wrong) {
                Check.refusesIndex(g, k + " of " + due[i], () -> call.accept(g, k));
            }
        }
    }

    private static void spot(GlassRaster g, int... due) {
        for (int what = 0; what < due.length; what++) {
            Check.is("screenOf(0, 2, " + what + ")", g.screenOf(0, 2, what), due[what]);
        }
    }

    private static void screenOf(Edges edges) {
        edges.of(17, ON_SCREEN, "in the middle, and a sixteenth beside it", () -> {
            spot(Scenes.spot(100, 40, 0, 0, 640), 320, 192, 55296, 103);
            spot(Scenes.spot(100, 40, 1, -1, 640), 321, 191, 55296, 103);
            spot(Scenes.spot(100, 40, -1, 1, 640), 319, 193, 55296, 103);
        });
        edges.of(17, ON_SCREEN, "cut downwards", () -> {
            spot(Scenes.spot(100, 40, -1, 1, 641), 319, 192, 55312, 103);
            spot(Scenes.spot(100, 40, 1, -1, 641), 320, 191, 55312, 103);
            spot(Scenes.spot(1, 1, -1, -1, 17), 319, 191, 65535 - 3855, 3856);
        });
        edges.of(17, ON_SCREEN, "at near the depth is 0", () -> {
            spot(Scenes.spot(100, 40, 5, -5, 100), 352, 160, 0, 656);
            spot(Scenes.spot(1, 1, 0, 0, 1), 320, 192, 0, 65537);
            spot(Scenes.spot(1000, 500, 1, 1, 1000), 328, 200, 0, 66);
        });
        edges.of(17, ON_SCREEN, "just behind near, and far out", () -> {
            spot(Scenes.spot(1, 1, 0, 0, 2), 320, 192, 32768, 32769);
            spot(Scenes.spot(1, 500, 5000, -5000, 5000), 8320, -7808, 65522, 14);
            GlassRaster g = Scenes.spot(1, 1, 0, 0, 0);
            g.setCamera(2, 4096, 4096, 4096, 5000);
            g.moveCorner(2, 2000, 2000, 2000);
            spot(g, 320, 192, 65533, 3);
        });
        edges.of(17, ON_SCREEN, "of a cut corner, by its own Z", () -> {
            GlassRaster g = Scenes.square(10, 5, false);
            int[][] due = {{168, 88, 32768, 103}, {232, 88, 32768, 103}, {232, 152, 0, 205},
                {168, 152, 0, 205}};
            for (int k = 0; k < 4; k++) {
                for (int what = 0; what < 4; what++) {
                    Check.is("screenOf(0, " + k + ", " + what + ")", g.screenOf(0, k, what),
                            due[k][what]);
                }
            }
        });
    }

    private static void screenOfLimits(Edges edges) {
        edges.of(17, SCREEN_ANSWER, "30000 and -30000 are answered", () -> {
            spot(Scenes.spot(1, 16, 1855, 1863, 16), 30000, 30000, 61440, 4097);
            spot(Scenes.spot(1, 16, -1895, -1887, 16), -30000, -30000, 61440, 4097);
        });
        edges.of(17, SCREEN_ANSWER, "one more, one less", () -> {
            spot(Scenes.spot(1, 67, 443, 0, 16), 30001, 192);
            spot(Scenes.spot(1, 27, -1123, 0, 16), -30001, 192);
            spot(Scenes.spot(1, 13, 0, 2293, 16), 320, 30001);
            spot(Scenes.spot(1, 109, 0, -277, 16), 320, -30001);
        });
        edges.of(17, SCREEN_ANSWER, "two more and far more", () -> {
            spot(Scenes.spot(1, 18, 1649, 0, 16), 30001, 192);
            spot(Scenes.spot(1, 500, 5000, 5000, 1), 30001, 30001, 0, 65537);
            spot(Scenes.spot(1, 500, -5000, -5000, 1), -30001, -30001, 0, 65537);
            spot(Scenes.spot(1, 500, 5000, -5000, 2), 30001, -30001, 32768, 32769);
        });
        edges.of(17, "Where a number could be greater than 32 bits can hold, it is meant as it is,"
                + " not wrapped, if nothing else is said.", "as far out as it can be", () -> {
            GlassRaster g = Scenes.spot(1, 500, 0, 0, 1);
            g.setCamera(0, 4096, 4096, 4096, 5000);
            g.setCamera(1, -4096, -4096, -4096, -5000);
            g.moveCorner(2, 2000, 2000, 2000);
            spot(g, 30001, -30001, 0, 65537);
        });
    }

    private static void screenOfRefused(Edges edges) {
        String refused = "Throws `IndexOutOfBoundsException` if there is no such pane or corner of"
                + " it, or what is not 0 to 3";
        edges.of(17, refused, "pane", () ->
                Refused.noSuchPane((g, pane) -> g.screenOf(pane, 0, 0)));
        edges.of(17, refused, "corner of it", () -> {
            for (int what = 0; what < 4; what++) {
                int of = what;
                noSuchEnd((g, k) -> g.screenOf(0, k, of));
            }
            Refused.outside(Stage.SOME, Refused.INDEX, 0, 2, (g, k) -> g.screenOf(1, k, 0));
        });
        edges.of(17, refused, "what", () -> Refused.outside(Stage.SOME, Refused.INDEX, 0, 3,
                (g, what) -> g.screenOf(0, 0, what)));
    }

    private static void piecesOfPolygons(Edges edges) {
        edges.of(18, PIECES, "no corners, no pieces", () -> {
            GlassRaster g = Scenes.flat();
            Scenes.triangle(g, 6, 6, 0);
            g.addPane(0, 1, 2, -1, false, true);
            g.setLens(640, 40);
            Check.is("Z of near", g.piecesOf(0), 1);
            g.setLens(641, 40);
            Check.is("behind near", g.piecesOf(0), 0);
        });
        edges.of(18, PIECES, "three corners, one piece", () -> {
            GlassRaster g = Scenes.square(10, 5, false);
            g.moveCorner(1, 500, 0, -640);
            Check.is("three corners", g.polygonOf(0), 3);
            Check.is("one piece", g.piecesOf(0), 1);
        });
        edges.of(18, PIECES, "four corners, two pieces", () ->
                Check.is("two pieces", Scenes.square(10, 5, false).piecesOf(0), 2));
        edges.of(18, PIECES_ANSWER, "not shown", () -> {
            GlassRaster g = Scenes.square(10, 5, false);
            g.show(0, false);
            Check.is("two pieces", g.piecesOf(0), 2);
        });
        edges.of(18, NO_PANE, "", () -> Refused.noSuchPane((g, pane) -> g.piecesOf(pane)));
    }

    /** Corners at the middle of a point, one sixteenth to the right and one downwards of it. */
    private static GlassRaster smallest(int rightX, int downY) {
        GlassRaster g = Scenes.flat();
        g.addCorner(0, 0, 0, 0, 0, 0);
        g.addCorner(rightX, 0, 0, 0, 0, 0);
        g.addCorner(0, downY, 0, 0, 0, 0);
        g.addPane(0, 1, 2, -1, false, false);
        g.addPane(0, 1, 2, -1, false, true);
        return g;
    }

    private static void pieces(GlassRaster g, int oneSided, int twoSided) {
        Check.is("one-sided", g.piecesOf(0), oneSided);
        Check.is("two-sided", g.piecesOf(1), twoSided);
    }

    private static void piecesByArea(Edges edges) {
        edges.of(18, "If area is 0, nothing is drawn.", "on a line, and in one place", () -> {
            pieces(smallest(0, 0), 0, 0);
            pieces(smallest(0, 100), 0, 0);
            pieces(smallest(-100, 0), 0, 0);
        });
        edges.of(18, "If area is 0, nothing is drawn.", "the least area that is drawn", () ->
                pieces(smallest(1, 1), 1, 1));
        edges.of(18, "If it is less than 0, the piece is seen from behind: it is drawn only if the"
                + " pane is two-sided, with B and C exchanged (and the area without its sign).",
                "the least and a great one", () -> {
            pieces(smallest(-1, 1), 0, 1);
            pieces(smallest(1, -1), 0, 1);
            pieces(smallest(-2000, 2000), 0, 1);
        });
        edges.of(18, PIECES_ANSWER, "one of both pieces is seen from behind", () -> {
            Check.is("one-sided", Scenes.folded(false, false).piecesOf(0), 1);
            Check.is("two-sided", Scenes.folded(false, true).piecesOf(0), 2);
        });
        edges.of(18, "Where a number could be greater than 32 bits can hold, it is meant as it is,"
                + " not wrapped, if nothing else is said.", "the greatest area", () -> {
            GlassRaster g = Scenes.huge(0, 0, 0);
            g.addPane(0, 1, 2, -1, false, false);
            g.addPane(0, 2, 1, -1, false, false);
            Check.is("from the front", g.piecesOf(0), 1);
            Check.is("from behind", g.piecesOf(1), 0);
        });
    }

    /** The two other corners lie near the middle; the one at x, y is the first, second or third. */
    private static void farCorner(int focus, int x, int y, int due) {
        for (int place = 0; place < 3; place++) {
            GlassRaster g = new GlassRaster();
            g.setLens(1, focus);
            g.setCamera(1, 0, 2048, 0, 1);
            g.setCamera(2, 0, 0, 0, 16);
            g.addCorner(x, (y - 1) / 2, 0, 0, 0, 0);
            g.addCorner(0, 0, 0, 0, 0, 0);
            g.addCorner(1, 1, 0, 0, 0, 0);
            g.addPane((3 - place) % 3, (4 - place) % 3, (5 - place) % 3, -1, false, true);
            Check.is("x", g.cornerOf(0, place, 0), x);
            Check.is("y", g.cornerOf(0, place, 1), y);
            Check.is("far corner in place " + place, g.piecesOf(0), due);
        }
    }

    private static void piecesLeftOut(Edges edges) {
        edges.of(18, LEFT_OUT, "sx 30000 and 30001", () -> {
            farCorner(16, 1855, 1, 1);
            farCorner(67, 442, 1, 1);
            farCorner(67, 443, 1, 0);
        });
        edges.of(18, LEFT_OUT, "sx -30000 and -30001", () -> {
            farCorner(16, -1895, 1, 1);
            farCorner(27, -1122, 1, 1);
            farCorner(27, -1123, 1, 0);
        });
        edges.of(18, LEFT_OUT, "sy 30000 and 30001", () -> {
            farCorner(16, 0, 1863, 1);
            farCorner(13, 0, 2291, 1);
            farCorner(13, 0, 2293, 0);
        });
        edges.of(18, LEFT_OUT, "sy -30000 and -30001", () -> {
            farCorner(16, 0, -1887, 1);
            farCorner(109, 0, -275, 1);
            farCorner(109, 0, -277, 0);
        });
    }

    /**
     * The first two corners with Z 320, the third one with Z 0; near is 160. On the screen the
     * polygon lies, from (320, 192) on, at 20 times the first corner, the second one, the second
     * plus the third, the first plus the third.
     */
    private static GlassRaster four(int firstX, int secondX, int thirdX) {
        GlassRaster g = new GlassRaster();
        g.setLens(160, 400);
        g.setCamera(2, 0, 0, 1024, 320);
        g.addCorner(firstX, 0, 0, 0, 0, 0);
        g.addCorner(secondX, 0, 0, 0, 0, 0);
        g.addCorner(thirdX, 100, -320, 0, 0, 0);
        g.addPane(0, 1, 2, -1, false, true);
        return g;
    }

    private static void far(GlassRaster g, int farOne, int due) {
        for (int k = 0; k < 4; k++) {
            int sx = g.screenOf(0, k, 0);
            Check.is("far out is " + k, sx == 30001 || sx == -30001, k == farOne);
        }
        Check.is("pieces", g.piecesOf(0), due);
    }

    private static void fourCornersFarOut(Edges edges) {
        edges.of(18, LEFT_OUT, "the first one of four corners is in both pieces", () ->
                far(four(1500, 0, -1000), 0, 0));
        edges.of(18, PIECES, "the second one of four corners is in the first piece alone", () -> {
            GlassRaster g = four(0, 1500, -1000);
            far(g, 1, 1);
            Check.is("a point of the second piece", g.liesIn(0, 20, 13), true);
        });
        edges.of(18, LEFT_OUT, "the third one of four corners is in both pieces", () ->
                far(four(0, 1000, 1000), 2, 0));
        edges.of(18, PIECES, "the fourth one of four corners is in the second piece alone", () -> {
            GlassRaster g = four(1000, 0, 1000);
            far(g, 3, 1);
            Check.is("a point of the first piece", g.liesIn(0, 38, 12), true);
        });
    }
}
