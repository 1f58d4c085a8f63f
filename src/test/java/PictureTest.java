/** Promises 23 to 31: the picture. */
public final class PictureTest {
    public static void main(String[] args) {
        clear();
        paint();
        staleTiles();
        everyPointOfATile();
        staleByDepthOrPane();
        points();
        nearerIsSeen();
        clearPanes();
        clearPanesInOrder();
        pointsWith();
        colours();
        manyColours();
        wrongInputs();
        Check.finish();
    }

    private static void clear() {
        GlassRaster g = Scenes.flat();
        g.setBackground(0x010203);
        Scenes.triangle(g, 6, 6, 9);
        Scenes.pane(g, 0, false);
        Check.is("stale of a new background", g.stale(), 15);
        Check.is("clear leaves the triangle's tiles", g.clear(), 3);
        Check.is("the background", g.colourAt(6, 6), 0x010203);
        g.paint();
        Check.is("drawn", g.colourAt(6, 6), 9);
        Check.is("clear again", g.clear(), 3);
        Check.is("the colour is cleared", g.colourAt(6, 6), 0x010203);
        Check.is("the depth is cleared", g.depthAt(6, 6), 65535);
        Check.is("the pane is cleared", g.paneAt(6, 6), -1);
        g.show(0, false);
        Check.is("nothing is stale", g.clear(), 0);
    }

    private static void paint() {
        GlassRaster g = Scenes.flat();
        Check.is("paint of nothing", g.paint(), 0);
        Scenes.triangle(g, 6, 6, 9);
        Scenes.pane(g, 0, false);
        Check.is("not drawn yet", g.colourAt(6, 6), 0);
        Check.is("paint", g.paint(), 3);
        Check.is("paint again", g.paint(), 0);
        for (int y = 0; y < 24; y++) {
            GlassRaster one = Scenes.flat();
            Scenes.pane(one, Scenes.triangle(one, 6, 6, 9), false);
            one.paint();
            for (int x = 0; x < 40; x++) {
                boolean isIn = Scenes.inTriangle(6, 6, x, y);
                Check.is("its colour", one.colourAt(x, y), isIn ? 9 : 0);
                Check.is("its depth", one.depthAt(x, y), isIn ? 55296 : 65535);
                Check.is("its pane", one.paneAt(x, y), isIn ? 0 : -1);
            }
        }
        g.setColour(0, 10);
        Check.is("the picture is kept", g.colourAt(6, 6), 9);
        Check.is("only one tile is drawn", g.paint(), 1);
        Check.is("the new colour", g.colourAt(6, 6), 10);
    }

    private static void staleTiles() {
        for (int tile = 0; tile < 15; tile++) {
            GlassRaster g = Scenes.flat();
            Scenes.triangle(g, tile % 5 * 8, tile / 5 * 8, 1);
            Scenes.triangle(g, tile % 5 * 8 + 4, tile / 5 * 8 + 4, 1);
            Scenes.pane(g, 0, false);
            Scenes.pane(g, 3, false);
            Check.is("just this is stale", g.stale(), 1);
            for (int i = 0; i < 15; i++) {
                Check.is("isStale(" + i + ")", g.isStale(i), i == tile);
            }
            Check.is("stale stays", g.stale(), 1);
            Check.is("it is drawn", g.paint(), 1);
            Check.is("it is not stale then", g.isStale(tile), false);
        }
    }

    private static void everyPointOfATile() {
        int[] x = {8, 15, 8, 15, 11, 0, 39};
        int[] y = {8, 8, 15, 15, 12, 0, 23};
        int[] tile = {6, 6, 6, 6, 6, 0, 14};
        for (int i = 0; i < x.length; i++) {
            GlassRaster g = Scenes.flat();
            Scenes.dot(g, x[i], y[i], 1);
            Scenes.pane(g, 0, false);
            for (int k = 0; k < 15; k++) {
                Check.is("one point makes it stale", g.isStale(k), k == tile[i]);
            }
            Check.is("stale by one point", g.stale(), 1);
            Check.is("paint one point", g.paint(), 1);
            Check.is("it is painted", g.pointsWith(0), 1);
            Check.is("there", g.paneAt(x[i], y[i]), 0);
        }
    }

    private static void staleByDepthOrPane() {
        GlassRaster g = Scenes.flat();
        Scenes.triangle(g, 0, 0, 5);
        Scenes.farTriangle(g, 0, 0, 5);
        g.addPane(0, 1, 2, -1, false, false);
        g.addPane(3, 4, 5, -1, false, false);
        g.addPane(0, 1, 2, -1, false, false);
        g.paint();
        Check.is("nearest", g.depthAt(0, 0), 55296);
        g.show(2, false);
        Check.is("what is not seen is not stale", g.stale(), 0);
        g.show(2, true);
        g.show(0, false);
        Check.is("another pane alone is stale", g.isStale(0), true);
        Check.is("its colour stays", g.colourNow(0, 0), 5);
        Check.is("paint of another pane", g.paint(), 1);
        Check.is("the other pane", g.paneAt(0, 0), 2);
        g.setLens(101, 40);
        Check.is("another depth alone is stale", g.stale(), 1);
        Check.is("paint of another depth", g.paint(), 1);
        Check.is("the other depth", g.depthAt(0, 0), 65535 - 101 * 65535 / 640);
    }

    private static void points() {
        GlassRaster g = Scenes.flat();
        Scenes.triangle(g, 36, 20, 0xABCDEF);
        Scenes.pane(g, 0, false);
        g.setBackground(3);
        g.clear();
        g.paint();
        Check.is("colourAt", g.colourAt(39, 20), 0xABCDEF);
        Check.is("depthAt", g.depthAt(36, 23), 55296);
        Check.is("paneAt", g.paneAt(36, 23), 0);
        Check.is("colourAt beside", g.colourAt(39, 21), 3);
        Check.is("depthAt beside", g.depthAt(39, 21), 65535);
        Check.is("paneAt beside", g.paneAt(39, 21), -1);
    }

    private static void nearerIsSeen() {
        GlassRaster g = Scenes.flat();
        Scenes.farTriangle(g, 2, 2, 1);
        Scenes.triangle(g, 2, 2, 2);
        Scenes.triangle(g, 2, 2, 3);
        g.addPane(0, 1, 2, -1, false, false);
        g.paint();
        Check.is("the far one alone", g.colourAt(2, 2), 1);
        Check.is("its depth", g.depthAt(2, 2), 60416);
        g.addPane(3, 4, 5, -1, false, false);
        g.paint();
        Check.is("a nearer one behind it in number", g.colourAt(2, 2), 2);
        Check.is("its pane", g.paneAt(2, 2), 1);
        g.addPane(0, 1, 2, -1, false, false);
        Check.is("a farther one is not drawn over it", g.paint(), 0);
        g.addPane(6, 7, 8, -1, false, false);
        Check.is("nor one of the same depth", g.paint(), 0);
        g.show(1, false);
        g.paint();
        Check.is("the next one", g.colourAt(2, 2), 3);
        Check.is("the next one's pane", g.paneAt(2, 2), 3);
    }

    private static void clearPanes() {
        GlassRaster g = Scenes.flat();
        g.setBackground(0x0405FF);
        Scenes.triangle(g, 2, 2, 0x0101FF);
        Scenes.farTriangle(g, 2, 2, 0x641E01);
        g.addPane(0, 1, 2, -1, true, false);
        g.paint();
        Check.is("half of the background", g.colourAt(2, 2), 0x0203FF);
        Check.is("its depth stays", g.depthAt(2, 2), 65535);
        Check.is("its pane stays", g.paneAt(2, 2), -1);
        g.addPane(3, 4, 5, -1, false, false);
        g.paint();
        Check.is("drawn over what was clear", g.colourAt(2, 2), 0x641E01);
        Check.is("the depth of what is not clear", g.depthAt(2, 2), 60416);
        g.addPane(0, 1, 2, -1, true, false);
        g.paint();
        Check.is("half of the pane", g.colourAt(2, 2), 0x320F80);
        Check.is("the depth of the pane behind", g.depthAt(2, 2), 60416);
        Check.is("the pane behind", g.paneAt(2, 2), 1);
        g.addPane(3, 4, 5, -1, true, false);
        Check.is("a clear one of the same depth is not drawn", g.paint(), 0);
    }

    private static void clearPanesInOrder() {
        GlassRaster g = Scenes.flat();
        Scenes.triangle(g, 2, 2, 0xFF0000);
        Scenes.farTriangle(g, 2, 2, 0x00FF00);
        g.addPane(0, 1, 2, -1, true, false);
        g.addPane(3, 4, 5, -1, true, false);
        g.paint();
        Check.is("both clear", g.colourAt(2, 2), 0x3F7F00);
        g.addPane(0, 1, 2, -1, false, false);
        g.addPane(3, 4, 5, -1, true, false);
        g.paint();
        Check.is("a clear one behind is not drawn", g.colourAt(2, 2), 0xFF0000);
    }

    private static void pointsWith() {
        GlassRaster g = Scenes.flat();
        Scenes.triangle(g, 2, 2, 0xFF0000);
        Scenes.triangle(g, 20, 10, 0xFF0000);
        Scenes.pane(g, 0, false);
        Scenes.pane(g, 3, false);
        Scenes.pane(g, 3, true);
        Check.is("not painted yet", g.pointsWith(0), 0);
        g.paint();
        Check.is("painted", g.pointsWith(0), 10);
        g.moveCorner(0, 2000, 2000, 0);
        g.show(1, false);
        Check.is("the picture stays", g.pointsWith(0), 10);
        Check.is("the other one", g.pointsWith(1), 10);
        Check.is("a clear one", g.pointsWith(2), 0);
        g.paint();
        Check.is("nothing of it", g.pointsWith(1), 0);
    }

    private static void colours() {
        GlassRaster g = Scenes.flat();
        Scenes.triangle(g, 0, 0, 0xFFFFFF);
        Scenes.pane(g, 0, false);
        Check.is("before painting", g.colours(), 1);
        g.paint();
        Check.is("two", g.colours(), 2);
        g.setBackground(0xFFFFFF);
        Check.is("the picture stays", g.colours(), 2);
        g.paint();
        Check.is("one again", g.colours(), 1);
        g.setColour(0, 0xFFFFFE);
        g.paint();
        Check.is("the triangle and the background", g.colours(), 2);
        g.show(0, false);
        for (int background = 0; background < 3; background++) {
            g.setBackground(background);
            g.clear();
            Check.is("the background alone", g.colours(), 1);
        }
        g.setBackground(16777215);
        g.paint();
        Check.is("white alone", g.colours(), 1);
        g.show(0, true);
        g.paint();
        Check.is("colours again", g.colours(), 2);
    }

    private static void manyColours() {
        int due = different(40);
        Check.holds("many colours", due > 500);
        Check.is("many", manyColoured(40).colours(), due);
        Check.is("others", manyColoured(10).colours(), different(10));
    }

    private static GlassRaster manyColoured(int focus) {
        GlassRaster g = Scenes.flat();
        g.setLens(100, focus);
        g.addCorner(-2000, -1500, 0, 0xFF0000, 0, 0);
        g.addCorner(2000, -1500, 0, 0x00FF00, 0, 0);
        g.addCorner(0, 1500, 0, 0x0000FF, 0, 0);
        g.addPane(0, 1, 2, -1, false, false);
        g.paint();
        return g;
    }

    private static int different(int focus) {
        java.util.Set<Integer> colours = new java.util.HashSet<>();
        for (int y = 0; y < 24; y++) {
            GlassRaster g = manyColoured(focus);
            for (int x = 0; x < 40; x++) {
                colours.add(g.colourAt(x, y));
            }
        }
        return colours.size();
    }

    private static void wrongInputs() {
        GlassRaster g = Scenes.flat();
        Scenes.triangle(g, 0, 0, 5);
        Scenes.pane(g, 0, false);
        int[][] wrong = {{-1, 0}, {40, 0}, {0, -1}, {0, 24}, {Integer.MIN_VALUE, 0},
            {Integer.MAX_VALUE, 0}, {0, Integer.MIN_VALUE}, {0, Integer.MAX_VALUE}, {-40, 1}};
        for (int[] w : wrong) {
            Check.refusesIndex(g, "colourAt", () -> g.colourAt(w[0], w[1]));
            Check.refusesIndex(g, "depthAt", () -> g.depthAt(w[0], w[1]));
            Check.refusesIndex(g, "paneAt", () -> g.paneAt(w[0], w[1]));
        }
        Check.refusesIndex(g, "isStale(-1)", () -> g.isStale(-1));
        Check.refusesIndex(g, "isStale(15)", () -> g.isStale(15));
        Check.refusesIndex(g, "pointsWith(-1)", () -> g.pointsWith(-1));
        Check.refusesIndex(g, "pointsWith(1)", () -> g.pointsWith(1));
    }
}
