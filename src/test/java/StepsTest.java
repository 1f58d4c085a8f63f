/** Promises 14 to 22: steps on the way. */
public final class StepsTest {
    public static void main(String[] args) {
        seen();
        polygonOf();
        cornerOf();
        cornerOfWithFirstOut();
        screenOf();
        screenOfLimits();
        piecesOf();
        piecesLeftOut();
        piecesOfFour();
        pointsOfAndLiesIn();
        pointsOnEdges();
        pointsFromBehind();
        smallestArea();
        depthOf();
        colourOf();
        colourOfPattern();
        patternInPerspective();
        repeatsAndEnds();
        wrongPoints();
        Check.finish();
    }

    private static void seen() {
        GlassRaster g = new GlassRaster();
        g.addCorner(-1, 2000, -2000, 0, 0, 0);
        g.addCorner(1, 0, 0, 0, 0, 0);
        g.setCamera(0, 1, 0, 0, 0);
        g.setCamera(1, 3, 5, 7, -9);
        g.setCamera(2, -4096, 4096, -4096, 5000);
        Check.is("cut downwards below 0", g.seen(0, 0), -1);
        Check.is("cut downwards above 0", g.seen(1, 0), 0);
        Check.is("all of a row", g.seen(0, 1), Math.floorDiv(-3 + 10000 - 14000, 1024) - 9);
        Check.is("far out", g.seen(0, 2), 4 + 8000 + 8000 + 5000);
        Check.refusesIndex(g, "seen(-1, 0)", () -> g.seen(-1, 0));
        Check.refusesIndex(g, "seen(2, 0)", () -> g.seen(2, 0));
        Check.refusesIndex(g, "seen(0, -1)", () -> g.seen(0, -1));
        Check.refusesIndex(g, "seen(0, 3)", () -> g.seen(0, 3));
    }

    /** Corners 0 and 1 with Z 150, 2 and 3 with Z -50, 4 with Z 100, which is near. */
    private static GlassRaster cutScene() {
        GlassRaster g = new GlassRaster();
        g.addCorner(0, 0, -350, 0x102030, 0, 100);
        g.addCorner(40, -40, -350, 0xFFFFFF, 40, 80);
        g.addCorner(3, -3, -550, 0, 2047, 0);
        g.addCorner(-3, 3, -550, 0x112131, 1, 101);
        g.addCorner(5, 6, -400, 0x010203, 7, 8);
        return g;
    }

    private static void polygonOf() {
        GlassRaster g = cutScene();
        Check.refusesIndex(g, "polygonOf(0) without panes", () -> g.polygonOf(0));
        g.addPane(0, 1, 4, -1, false, false);
        g.addPane(0, 1, 2, -1, false, false);
        g.addPane(0, 2, 3, -1, false, false);
        g.addCorner(0, 0, -401, 0, 0, 0);
        g.addPane(2, 3, 5, -1, false, false);
        g.addPane(2, 3, 4, -1, false, false);
        int[] due = {3, 4, 3, 0, 3};
        for (int i = 0; i < due.length; i++) {
            Check.is("polygonOf " + i, g.polygonOf(i), due[i]);
            g.show(i, false);
            Check.is("polygonOf one that is not shown " + i, g.polygonOf(i), due[i]);
        }
        Check.refusesIndex(g, "polygonOf(-1)", () -> g.polygonOf(-1));
        Check.refusesIndex(g, "polygonOf(5)", () -> g.polygonOf(5));
    }

    private static void corner(GlassRaster g, int pane, int k, int... due) {
        for (int what = 0; what < 6; what++) {
            Check.is("cornerOf(" + pane + ", " + k + ", " + what + ")",
                    g.cornerOf(pane, k, what), due[what]);
        }
    }

    private static void cornerOf() {
        GlassRaster g = cutScene();
        g.addPane(0, 2, 3, -1, false, false);
        corner(g, 0, 0, 0, 0, 150, 0, 100, 0x102030);
        corner(g, 0, 1, 0, -1, 100, 511, 75, 0x0C1824);
        corner(g, 0, 2, -1, 0, 100, 0, 100, 0x102030);
        g.addPane(0, 1, 2, -1, false, false);
        corner(g, 1, 0, 0, 0, 150, 0, 100, 0x102030);
        corner(g, 1, 1, 40, -40, 150, 40, 80, 0xFFFFFF);
        corner(g, 1, 2, 40 - 10, -40 + 9, 100, 40 + 501, 80 - 20, 0xBFBFBF);
        corner(g, 1, 3, 0, -1, 100, 511, 75, 0x0C1824);
        g.addPane(4, 2, 3, -1, false, false);
        for (int k = 0; k < 3; k++) {
            corner(g, 2, k, 5, 6, 100, 7, 8, 0x010203);
        }
        Check.refusesIndex(g, "cornerOf(3, 0, 0)", () -> g.cornerOf(3, 0, 0));
        Check.refusesIndex(g, "cornerOf(-1, 0, 0)", () -> g.cornerOf(-1, 0, 0));
        Check.refusesIndex(g, "cornerOf(0, 3, 0)", () -> g.cornerOf(0, 3, 0));
        Check.refusesIndex(g, "cornerOf(1, 4, 0)", () -> g.cornerOf(1, 4, 0));
        Check.refusesIndex(g, "cornerOf(0, -1, 0)", () -> g.cornerOf(0, -1, 0));
        Check.refusesIndex(g, "cornerOf(0, 0, -1)", () -> g.cornerOf(0, 0, -1));
        Check.refusesIndex(g, "cornerOf(0, 0, 6)", () -> g.cornerOf(0, 0, 6));
        g.setLens(1000, 1);
        Check.is("nothing in front", g.polygonOf(0), 0);
        Check.refusesIndex(g, "cornerOf nothing", () -> g.cornerOf(0, 0, 0));
        Check.refusesIndex(g, "screenOf nothing", () -> g.screenOf(0, 0, 0));
    }

    private static void cornerOfWithFirstOut() {
        GlassRaster g = cutScene();
        g.addPane(2, 0, 3, -1, false, false);
        corner(g, 0, 0, 0, -1, 100, 511, 75, 0x0C1824);
        corner(g, 0, 1, 0, 0, 150, 0, 100, 0x102030);
        corner(g, 0, 2, -1, 0, 100, 0, 100, 0x102030);
        g.addPane(2, 3, 0, -1, false, false);
        corner(g, 1, 0, -1, 0, 100, 0, 100, 0x102030);
        corner(g, 1, 1, 0, 0, 150, 0, 100, 0x102030);
        corner(g, 1, 2, 0, -1, 100, 511, 75, 0x0C1824);
        g.addPane(2, 0, 1, -1, false, false);
        corner(g, 2, 0, 0, -1, 100, 511, 75, 0x0C1824);
        corner(g, 2, 1, 0, 0, 150, 0, 100, 0x102030);
        corner(g, 2, 2, 40, -40, 150, 40, 80, 0xFFFFFF);
        corner(g, 2, 3, 30, -31, 100, 541, 60, 0xBFBFBF);
        g.addPane(1, 2, 0, -1, false, false);
        corner(g, 3, 0, 40, -40, 150, 40, 80, 0xFFFFFF);
        corner(g, 3, 1, 30, -31, 100, 541, 60, 0xBFBFBF);
        corner(g, 3, 2, 0, -1, 100, 511, 75, 0x0C1824);
        corner(g, 3, 3, 0, 0, 150, 0, 100, 0x102030);
    }

    private static void screen(GlassRaster g, int pane, int k, int... due) {
        for (int what = 0; what < 4; what++) {
            Check.is("screenOf(" + pane + ", " + k + ", " + what + ")",
                    g.screenOf(pane, k, what), due[what]);
        }
    }

    private static void screenOf() {
        GlassRaster g = Scenes.flat();
        g.addCorner(-160, 96, 0, 0, 0, 0);
        g.addCorner(-1, -1, -110, 0, 0, 0);
        g.addCorner(1, 1, -110, 0, 0, 0);
        g.addPane(0, 1, 2, -1, false, false);
        screen(g, 0, 0, 160, 288, 55296, 103);
        screen(g, 0, 1, 318, 190, 65535 - 12365, 124);
        screen(g, 0, 2, 321, 193, 65535 - 12365, 124);
        g.show(0, false);
        screen(g, 0, 0, 160, 288, 55296, 103);
        g.setLens(640, 500);
        screen(g, 0, 0, 320 - 2000, 192 + 1200, 0, 103);
        screen(g, 0, 1, 320 - 2000, 192 + 1200, 0, 103);
        Check.refusesIndex(g, "screenOf(1, 0, 0)", () -> g.screenOf(1, 0, 0));
        Check.refusesIndex(g, "screenOf(-1, 0, 0)", () -> g.screenOf(-1, 0, 0));
        Check.refusesIndex(g, "screenOf(0, 3, 0)", () -> g.screenOf(0, 3, 0));
        Check.refusesIndex(g, "screenOf(0, -1, 0)", () -> g.screenOf(0, -1, 0));
        Check.refusesIndex(g, "screenOf(0, 0, 4)", () -> g.screenOf(0, 0, 4));
        Check.refusesIndex(g, "screenOf(0, 0, -1)", () -> g.screenOf(0, 0, -1));
    }

    /** All corners at Z 1 with near and focus 1: sx = 320 + 16 * x, sy = 192 + 16 * y. */
    private static GlassRaster closeScene() {
        GlassRaster g = new GlassRaster();
        g.setLens(1, 1);
        g.setCamera(2, 0, 0, 0, 1);
        g.addCorner(0, 0, 0, 0, 0, 0);
        g.addCorner(100, 0, 0, 0, 0, 0);
        g.addCorner(0, 100, 0, 0, 0, 0);
        g.addPane(0, 1, 2, -1, false, false);
        return g;
    }

    private static void screenOfLimits() {
        GlassRaster g = closeScene();
        screen(g, 0, 0, 320, 192, 0, 65537);
        g.moveCorner(0, 1855, 1863, 0);
        screen(g, 0, 0, 30000, 30000, 0, 65537);
        g.moveCorner(0, 1856, 1864, 0);
        screen(g, 0, 0, 30001, 30001, 0, 65537);
        g.moveCorner(0, -1895, -1887, 0);
        screen(g, 0, 0, -30000, -30000, 0, 65537);
        g.moveCorner(0, -1896, -1888, 0);
        screen(g, 0, 0, -30001, -30001, 0, 65537);
        g.setLens(1, 500);
        g.moveCorner(0, 2000, -2000, 0);
        screen(g, 0, 0, 30001, -30001, 0, 65537);
    }

    private static void piecesOf() {
        GlassRaster g = Scenes.flat();
        Scenes.triangle(g, 5, 5, 0);
        g.addPane(0, 1, 2, -1, false, false);
        g.addPane(0, 2, 1, -1, false, false);
        g.addPane(2, 1, 0, -1, true, true);
        Check.is("from the front", g.piecesOf(0), 1);
        Check.is("from behind, one-sided", g.piecesOf(1), 0);
        Check.is("from behind, two-sided", g.piecesOf(2), 1);
        g.show(0, false);
        Check.is("not shown", g.piecesOf(0), 1);
        int x = 16 * 5 + 8 - 320;
        int y = 16 * 5 + 8 - 192;
        g.moveCorner(2, x + 32, y, 0);
        Check.is("without an area", g.piecesOf(0), 0);
        Check.is("without an area, two-sided", g.piecesOf(2), 0);
        g.moveCorner(2, x + 32, y + 1, 0);
        Check.is("with the smallest area", g.piecesOf(0), 1);
        g.setLens(700, 40);
        Check.is("behind near", g.piecesOf(0), 0);
        Check.refusesIndex(g, "piecesOf(-1)", () -> g.piecesOf(-1));
        Check.refusesIndex(g, "piecesOf(3)", () -> g.piecesOf(3));
    }

    private static void piecesLeftOut() {
        GlassRaster g = closeScene();
        int[][] within = {{1, 1855, 0}, {2, 0, 1863}, {0, -1895, 0}, {0, 0, -1887}};
        int[][] outside = {{1, 1856, 0}, {2, 0, 1864}, {0, -1896, 0}, {0, 0, -1888}};
        for (int i = 0; i < within.length; i++) {
            g.moveCorner(0, 0, 0, 0);
            g.moveCorner(1, 100, 0, 0);
            g.moveCorner(2, 0, 100, 0);
            g.moveCorner(within[i][0], within[i][1], within[i][2], 0);
            Check.is("just within " + i, g.piecesOf(0), 1);
            g.moveCorner(outside[i][0], outside[i][1], outside[i][2], 0);
            Check.is("just outside " + i, g.piecesOf(0), 0);
            Check.is("no points " + i, g.pointsOf(0), 0);
        }
    }

    private static void piecesOfFour() {
        GlassRaster g = new GlassRaster();
        g.setLens(1, 1);
        g.setCamera(0, 2048, 0, 0, 0);
        g.setCamera(2, 0, 0, 1024, 0);
        g.addCorner(0, 0, 2, 0, 0, 0);
        g.addCorner(500, 0, 2, 0, 0, 0);
        g.addCorner(-1000, 100, 0, 0, 0, 0);
        g.addPane(0, 1, 2, -1, false, false);
        Check.is("four corners", g.polygonOf(0), 4);
        Check.is("two pieces", g.piecesOf(0), 2);
        g.moveCorner(1, 2000, 0, 2);
        Check.is("the second corner is far out", g.screenOf(0, 1, 0), 30001);
        Check.is("the third one is not", g.screenOf(0, 2, 0), 16320);
        Check.is("the second piece is left", g.piecesOf(0), 1);
        Check.is("it has a point", g.liesIn(0, 20, 20), true);
        g.addPane(1, 2, 0, -1, false, true);
        Check.is("both have the far corner", g.piecesOf(1), 0);
    }

    private static void pointsOfAndLiesIn() {
        GlassRaster g = Scenes.flat();
        Scenes.triangle(g, 5, 5, 0);
        Scenes.pane(g, 0, false);
        g.show(0, false);
        Check.is("pointsOf", g.pointsOf(0), 10);
        for (int y = 0; y < 24; y++) {
            GlassRaster one = Scenes.flat();
            Scenes.pane(one, Scenes.triangle(one, 5, 5, 0), false);
            one.show(0, false);
            for (int x = 0; x < 40; x++) {
                Check.is("liesIn(0, " + x + ", " + y + ")", one.liesIn(0, x, y),
                        Scenes.inTriangle(5, 5, x, y));
            }
        }
        g.moveCorner(0, -2000, -2000, 0);
        g.moveCorner(1, 2000, -2000, 0);
        g.moveCorner(2, 0, 2000, 0);
        Check.is("the whole screen", g.pointsOf(0), 960);
        Check.is("the first point", g.liesIn(0, 0, 0), true);
        Check.is("the last point", g.liesIn(0, 39, 23), true);
        Check.refusesIndex(g, "pointsOf(-1)", () -> g.pointsOf(-1));
        Check.refusesIndex(g, "pointsOf(1)", () -> g.pointsOf(1));
    }

    /** The two halves of a square share its slanted edge; each point is in one of them. */
    private static void pointsOnEdges() {
        for (int y = 0; y < 24; y++) {
            GlassRaster g = Scenes.flat();
            Scenes.triangle(g, 30, 10, 0);
            Scenes.corner(g, 34, 14, 0);
            g.addPane(0, 1, 2, -1, false, false);
            g.addPane(3, 2, 1, -1, false, false);
            g.addPane(2, 1, 3, -1, false, true);
            g.addPane(1, 3, 2, -1, false, false);
            for (int x = 0; x < 40; x++) {
                boolean isInSquare = x >= 30 && x < 34 && y >= 10 && y < 14;
                boolean isInFirst = Scenes.inTriangle(30, 10, x, y);
                Check.is("the first half", g.liesIn(0, x, y), isInFirst);
                for (int pane = 1; pane < 4; pane++) {
                    Check.is("the other half", g.liesIn(pane, x, y), isInSquare && !isInFirst);
                }
            }
        }
    }

    private static void pointsFromBehind() {
        GlassRaster g = Scenes.flat();
        Scenes.triangle(g, 5, 5, 0);
        g.addPane(0, 2, 1, -1, false, false);
        g.addPane(0, 2, 1, -1, false, true);
        Check.is("one-sided", g.pointsOf(0), 0);
        Check.is("two-sided", g.pointsOf(1), 10);
        for (int y = 4; y < 10; y++) {
            for (int x = 4; x < 10; x++) {
                Check.is("liesIn one-sided", g.liesIn(0, x, y), false);
                Check.is("liesIn two-sided", g.liesIn(1, x, y), Scenes.inTriangle(5, 5, x, y));
            }
        }
    }

    /** Half a sixteenth by a sixteenth, its first corner in the middle of a point. */
    private static void smallestArea() {
        GlassRaster g = Scenes.flat();
        Scenes.corner(g, 12, 7, 5);
        g.addCorner(16 * 12 + 8 - 320 + 1, 16 * 7 + 8 - 192, 0, 5, 0, 0);
        g.addCorner(16 * 12 + 8 - 320, 16 * 7 + 8 - 192 + 1, 0, 5, 0, 0);
        g.addPane(0, 1, 2, -1, false, false);
        g.addPane(0, 2, 1, -1, false, false);
        g.addPane(0, 2, 1, 0, false, true);
        g.setPattern(0, 0, 0, 0xFFFFFF);
        int[] pieces = {1, 0, 1};
        for (int pane = 0; pane < 3; pane++) {
            boolean isDrawn = pieces[pane] == 1;
            Check.is("smallest, pieces", g.piecesOf(pane), pieces[pane]);
            Check.is("smallest, points", g.pointsOf(pane), pieces[pane]);
            Check.is("smallest, point", g.liesIn(pane, 12, 7), isDrawn);
            Check.is("smallest, depth", g.depthOf(pane, 12, 7), isDrawn ? 55296 : -1);
            Check.is("smallest, colour", g.colourOf(pane, 12, 7), isDrawn ? 5 : -1);
        }
    }

    private static void depthOf() {
        GlassRaster g = Scenes.flat();
        Scenes.corner(g, 10, 5, 0);
        Scenes.farCorner(g, 14, 5, 0);
        Scenes.corner(g, 10, 9, 0);
        g.addPane(0, 1, 2, -1, false, false);
        g.addPane(0, 2, 1, -1, false, true);
        for (int pane = 0; pane < 2; pane++) {
            Check.is("at a corner", g.depthOf(pane, 10, 5), 55296);
            Check.is("a quarter on", g.depthOf(pane, 11, 5), 56576);
            Check.is("a half on", g.depthOf(pane, 12, 5), 57856);
            Check.is("beside it", g.depthOf(pane, 9, 5), -1);
            Check.is("on the edge that does not count", g.depthOf(pane, 14, 5), -1);
        }
        g.show(0, false);
        Check.is("not shown", g.depthOf(0, 11, 5), 56576);
        g.setLens(101, 40);
        int near = 65535 - 101 * 65535 / 640;
        int far = 65535 - 101 * 65535 / 1280;
        Check.is("cut downwards", g.depthOf(0, 11, 5), (3 * near + far) / 4);
    }

    private static void colourOf() {
        GlassRaster g = Scenes.flat();
        Scenes.corner(g, 10, 5, 0x000007);
        Scenes.corner(g, 14, 5, 0xFF0007);
        Scenes.corner(g, 10, 9, 0x00FF07);
        g.addPane(0, 1, 2, -1, true, false);
        g.addPane(2, 1, 0, -1, false, true);
        for (int pane = 0; pane < 2; pane++) {
            Check.is("of the first", g.colourOf(pane, 10, 5), 0x000007);
            Check.is("towards the second", g.colourOf(pane, 11, 5), 63 * 65536 + 7);
            Check.is("towards the third", g.colourOf(pane, 10, 7), 127 * 256 + 7);
            Check.is("of all", g.colourOf(pane, 11, 6), 63 * 65536 + 63 * 256 + 7);
            Check.is("beside it", g.colourOf(pane, 10, 9), -1);
        }
        g.show(0, false);
        g.paint();
        Check.is("not shown", g.colourOf(0, 10, 7), 127 * 256 + 7);
    }

    private static void colourOfPattern() {
        GlassRaster g = Scenes.flat();
        g.addCorner(16 * 10 + 8 - 320, 16 * 5 + 8 - 192, 0, 0x64FF01, 300, 900);
        g.addCorner(16 * 14 + 8 - 320, 16 * 5 + 8 - 192, 0, 0x64FF01, 300, 900);
        g.addCorner(16 * 10 + 8 - 320, 16 * 9 + 8 - 192, 0, 0x64FF01, 300, 900);
        for (int i = 0; i < 4; i++) {
            g.addPane(0, 1, 2, i, false, false);
            g.setPattern(i, 2, 7, (200 + i) * 65536 + 0x8101 * (i + 1));
            g.setPattern(i, 7, 2, 0x123456);
        }
        for (int i = 0; i < 4; i++) {
            int tint = (200 + i) * 65536 + 0x8101 * (i + 1);
            int red = (tint >> 16) * 100 / 255;
            int green = tint >> 8 & 255;
            int blue = (tint & 255) / 255;
            Check.is("of pattern " + i, g.colourOf(i, 11, 6), red * 65536 + green * 256 + blue);
        }
        g.setPattern(1, 2, 7, 0xFFFFFF);
        Check.is("white leaves it", g.colourOf(1, 11, 6), 0x64FF01);
        for (int i = 0; i < 3; i++) {
            g.setColour(i, 0xFFFFFF);
        }
        Check.is("white times white", g.colourOf(1, 11, 6), 0xFFFFFF);
        Check.is("white takes the pattern's", g.colourOf(0, 11, 6), 200 * 65536 + 0x8101);
    }

    /** u is weighted: half way to a corner twice as far, only a third of its u is reached. */
    private static void patternInPerspective() {
        GlassRaster g = Scenes.flat();
        int x = 16 * 10 + 8 - 320;
        int y = 16 * 5 + 8 - 192;
        g.addCorner(x, y, 0, Scenes.WHITE, 0, 0);
        g.addCorner(2 * (x + 64), 2 * y, 640, Scenes.WHITE, 2047, 0);
        g.addCorner(x, y + 64, 0, Scenes.WHITE, 0, 1000);
        g.addPane(0, 1, 2, 2, false, false);
        g.addPane(0, 2, 1, 2, false, true);
        for (int i = 0; i < 64; i++) {
            g.setPattern(2, i % 8, i / 8, i + 1);
        }
        for (int pane = 0; pane < 2; pane++) {
            Check.is("at the first", g.colourOf(pane, 10, 5), 1);
            Check.is("u is 294", g.colourOf(pane, 11, 5), 1 + 2);
            Check.is("u is 686", g.colourOf(pane, 12, 5), 1 + 5);
            Check.is("v is 250", g.colourOf(pane, 10, 6), 1 + 8);
            Check.is("v is 500", g.colourOf(pane, 10, 7), 1 + 3 * 8);
            Check.is("u is 294, v is 570", g.colourOf(pane, 11, 7), 1 + 2 + 4 * 8);
        }
    }

    private static void repeatsAndEnds() {
        int[] along = {0, 127, 128, 1023, 1024, 1151, 1152, 1919, 1920, 2047};
        int[] repeated = {0, 0, 1, 7, 0, 0, 1, 6, 7, 7};
        int[] ended = {0, 0, 1, 7, 7, 7, 7, 7, 7, 7};
        for (int i = 0; i < along.length; i++) {
            GlassRaster g = Scenes.flat();
            int x = 16 * 10 + 8 - 320;
            for (int k = 0; k < 3; k++) {
                g.addCorner(x + (k == 1 ? 64 : 0), k == 2 ? 64 : 0, 0, Scenes.WHITE, along[i],
                        along[along.length - 1 - i]);
            }
            g.addPane(0, 1, 2, 3, false, false);
            for (int k = 0; k < 64; k++) {
                g.setPattern(3, k % 8, k / 8, k + 1);
            }
            int other = along.length - 1 - i;
            Check.is("repeats", g.colourOf(0, 10, 12), 1 + repeated[i] + 8 * repeated[other]);
            g.setRepeats(3, false);
            Check.is("ends", g.colourOf(0, 10, 12), 1 + ended[i] + 8 * ended[other]);
        }
    }

    private static void wrongPoints() {
        GlassRaster g = Scenes.flat();
        Scenes.triangle(g, 0, 0, 5);
        Scenes.pane(g, 0, false);
        int[][] wrong = {{-1, 0, 0}, {1, 0, 0}, {0, -1, 0}, {0, 40, 0}, {0, 0, -1}, {0, 0, 24},
            {Integer.MAX_VALUE, 0, 0}, {0, Integer.MIN_VALUE, 0}, {0, 0, Integer.MAX_VALUE}};
        for (int[] w : wrong) {
            Check.refusesIndex(g, "liesIn", () -> g.liesIn(w[0], w[1], w[2]));
            Check.refusesIndex(g, "depthOf", () -> g.depthOf(w[0], w[1], w[2]));
            Check.refusesIndex(g, "colourOf", () -> g.colourOf(w[0], w[1], w[2]));
        }
        Check.is("the last column", g.liesIn(0, 39, 0), false);
        Check.is("the last line", g.depthOf(0, 0, 23), -1);
    }
}
