/** Promises 1 to 13: what there is. */
public final class ThingsTest {
    public static void main(String[] args) {
        newObject();
        addCorner();
        addCornerRefused();
        moveCorner();
        setColour();
        addPane();
        addPaneRefused();
        show();
        setPattern();
        setRepeats();
        setCamera();
        setLens();
        setBackground();
        counts();
        Check.finish();
    }

    private static void newObject() {
        GlassRaster g = new GlassRaster();
        Check.is("corners of a new object", g.corners(), 0);
        Check.is("panes of a new object", g.panes(), 0);
        Check.is("stale of a new object", g.stale(), 0);
        Check.is("colours of a new object", g.colours(), 1);
        for (int y = 0; y < 24; y++) {
            GlassRaster one = new GlassRaster();
            for (int x = 0; x < 40; x++) {
                Check.is("first colour", one.colourAt(x, y), 0);
                Check.is("first depth", one.depthAt(x, y), 65535);
                Check.is("first pane", one.paneAt(x, y), -1);
            }
        }
        g.addCorner(10, 20, 30, 0, 0, 0);
        g.addCorner(0, 0, -400, 0, 0, 0);
        g.addCorner(0, 0, -401, 0, 0, 0);
        Check.is("first X", g.seen(0, 0), 10);
        Check.is("first Y", g.seen(0, 1), 20);
        Check.is("first Z", g.seen(0, 2), 530);
        g.addPane(0, 1, 2, -1, false, false);
        Check.is("first near keeps 100, not 99", g.polygonOf(0), 4);
        Check.is("first focus, sx", g.screenOf(0, 0, 0), 320 + 6400 / 530);
        Check.is("first focus, sy", g.screenOf(0, 0, 1), 192 + 12800 / 530);
        Check.is("first background", g.setBackground(5), 0);
    }

    private static void addCorner() {
        GlassRaster g = new GlassRaster();
        Check.is("addCorner, least", g.addCorner(-2000, -2000, -2000, 0, 0, 0), 0);
        Check.is("addCorner, most", g.addCorner(2000, 2000, 2000, 16777215, 2047, 2047), 1);
        Check.is("addCorner", g.addCorner(1, 2, 3, 0x102030, 4, 5), 2);
        Check.is("corners", g.corners(), 3);
        int[] most = {2000, 2000, 2500};
        int[] last = {1, 2, 503};
        for (int row = 0; row < 3; row++) {
            Check.is("least seen", g.seen(0, row), row == 2 ? -1500 : -2000);
            Check.is("most seen", g.seen(1, row), most[row]);
            Check.is("last seen", g.seen(2, row), last[row]);
        }
        g.addPane(2, 1, 0, -1, false, false);
        Check.is("its u", g.cornerOf(0, 0, 3), 4);
        Check.is("its v", g.cornerOf(0, 0, 4), 5);
        Check.is("its colour", g.cornerOf(0, 0, 5), 0x102030);
        Check.is("most u", g.cornerOf(0, 1, 3), 2047);
        Check.is("most v", g.cornerOf(0, 1, 4), 2047);
        Check.is("most colour", g.cornerOf(0, 1, 5), 16777215);
        for (int i = 3; i < 40; i++) {
            Check.is("addCorner up to 40", g.addCorner(0, 0, 0, 0, 0, 0), i);
        }
    }

    private static void addCornerRefused() {
        GlassRaster g = new GlassRaster();
        g.addCorner(0, 0, 0, 0, 0, 0);
        int[] wrong = {-2001, 2001, Integer.MIN_VALUE, Integer.MAX_VALUE};
        for (int w : wrong) {
            Check.refusesArgument(g, "addCorner, x", () -> g.addCorner(w, 0, 0, 0, 0, 0));
            Check.refusesArgument(g, "addCorner, y", () -> g.addCorner(0, w, 0, 0, 0, 0));
            Check.refusesArgument(g, "addCorner, z", () -> g.addCorner(0, 0, w, 0, 0, 0));
        }
        Check.refusesArgument(g, "addCorner, colour", () -> g.addCorner(0, 0, 0, -1, 0, 0));
        Check.refusesArgument(g, "addCorner, colour", () -> g.addCorner(0, 0, 0, 16777216, 0, 0));
        Check.refusesArgument(g, "addCorner, u", () -> g.addCorner(0, 0, 0, 0, -1, 0));
        Check.refusesArgument(g, "addCorner, u", () -> g.addCorner(0, 0, 0, 0, 2048, 0));
        Check.refusesArgument(g, "addCorner, v", () -> g.addCorner(0, 0, 0, 0, 0, -1));
        Check.refusesArgument(g, "addCorner, v", () -> g.addCorner(0, 0, 0, 0, 0, 2048));
        Scenes.fillCorners(g);
        Check.refusesState(g, "the 41st corner", () -> g.addCorner(0, 0, 0, 0, 0, 0));
        Check.refusesArgument(g, "the 41st, x", () -> g.addCorner(2001, 0, 0, 0, 0, 0));
        Check.refusesArgument(g, "the 41st, colour", () -> g.addCorner(0, 0, 0, -1, 0, 0));
        Check.refusesArgument(g, "the 41st, v", () -> g.addCorner(0, 0, 0, 0, 0, 2048));
        Check.is("corners stay 40", g.corners(), 40);
    }

    private static void moveCorner() {
        GlassRaster g = new GlassRaster();
        for (int i = 0; i < 4; i++) {
            g.addCorner(i, 0, 0, 100 + i, i, 7);
        }
        Check.is("moveCorner without panes", g.moveCorner(3, 0, 0, 0), 0);
        g.addPane(0, 1, 2, -1, false, false);
        g.addPane(1, 2, 0, -1, false, false);
        g.addPane(3, 0, 1, -1, false, false);
        g.show(2, false);
        Check.is("moveCorner, first, third and second", g.moveCorner(0, -5, 6, 7), 3);
        Check.is("moveCorner of three", g.moveCorner(1, 2000, -2000, 2000), 3);
        Check.is("moveCorner of two", g.moveCorner(2, -2000, 2000, -2000), 2);
        Check.is("moveCorner of one that is not shown", g.moveCorner(3, 1, 1, 1), 1);
        Check.is("moved X", g.seen(0, 0), -5);
        Check.is("moved Y", g.seen(0, 1), 6);
        Check.is("moved Z", g.seen(0, 2), 507);
        Check.is("the colour stays", g.cornerOf(0, 0, 5), 100);
        Check.is("u stays", g.cornerOf(0, 1, 3), 1);
        Check.is("v stays", g.cornerOf(0, 1, 4), 7);
        Check.refusesIndex(g, "moveCorner(-1)", () -> g.moveCorner(-1, 0, 0, 0));
        Check.refusesIndex(g, "moveCorner(4)", () -> g.moveCorner(4, 0, 0, 0));
        Check.refusesIndex(g, "moveCorner(4), x too", () -> g.moveCorner(4, 2001, 0, 0));
        Check.refusesArgument(g, "moveCorner, x", () -> g.moveCorner(0, 2001, 0, 0));
        Check.refusesArgument(g, "moveCorner, x", () -> g.moveCorner(0, -2001, 0, 0));
        Check.refusesArgument(g, "moveCorner, y", () -> g.moveCorner(0, 0, 2001, 0));
        Check.refusesArgument(g, "moveCorner, y", () -> g.moveCorner(0, 0, -2001, 0));
        Check.refusesArgument(g, "moveCorner, z", () -> g.moveCorner(0, 0, 0, 2001));
        Check.refusesArgument(g, "moveCorner, z", () -> g.moveCorner(0, 0, 0, -2001));
    }

    private static void setColour() {
        GlassRaster g = Scenes.flat();
        Scenes.triangle(g, 1, 1, 77);
        Scenes.pane(g, 0, false);
        Check.is("setColour answers the one before", g.setColour(1, 16777215), 77);
        Check.is("setColour again", g.setColour(1, 0), 16777215);
        Check.is("setColour of another", g.setColour(0, 1), 77);
        Check.is("the colour from now on", g.cornerOf(0, 1, 5), 0);
        Check.is("the colour of the first", g.cornerOf(0, 0, 5), 1);
        Check.is("the colour of the third", g.cornerOf(0, 2, 5), 77);
        Check.refusesIndex(g, "setColour(-1)", () -> g.setColour(-1, 0));
        Check.refusesIndex(g, "setColour(3)", () -> g.setColour(3, 0));
        Check.refusesIndex(g, "setColour(3), colour too", () -> g.setColour(3, -1));
        Check.refusesArgument(g, "setColour, -1", () -> g.setColour(0, -1));
        Check.refusesArgument(g, "setColour, 16777216", () -> g.setColour(0, 16777216));
    }

    private static void addPane() {
        GlassRaster g = Scenes.flat();
        Scenes.triangle(g, 1, 1, 0x404040);
        for (int i = 0; i < 4; i++) {
            g.setPattern(i, 0, 0, (i + 1) * 255);
        }
        Check.is("addPane", g.addPane(0, 1, 2, -1, false, false), 0);
        Check.is("addPane, pattern 0", g.addPane(0, 1, 2, 0, false, false), 1);
        Check.is("addPane, pattern 3", g.addPane(0, 1, 2, 3, false, false), 2);
        Check.is("addPane, from behind", g.addPane(0, 2, 1, 1, true, false), 3);
        Check.is("addPane, two-sided", g.addPane(0, 2, 1, 1, true, true), 4);
        Check.is("panes", g.panes(), 5);
        Check.is("plain", g.colourOf(0, 1, 1), 0x404040);
        Check.is("pattern 0", g.colourOf(1, 1, 1), 0x40);
        Check.is("pattern 3", g.colourOf(2, 1, 1), (0x03 * 0x40 / 255) * 256 + 0xFC * 0x40 / 255);
        Check.is("one-sided", g.piecesOf(3), 0);
        Check.is("two-sided", g.piecesOf(4), 1);
        for (int i = 0; i < 5; i++) {
            Check.is("at first shown", g.show(i, true), true);
        }
        for (int i = 5; i < 30; i++) {
            Check.is("addPane up to 30", g.addPane(2, 1, 0, 2, true, true), i);
        }
    }

    private static void addPaneRefused() {
        GlassRaster g = new GlassRaster();
        Check.refusesIndex(g, "without corners", () -> g.addPane(0, 1, 2, -1, false, false));
        for (int i = 0; i < 3; i++) {
            g.addCorner(i, i * i, 0, 0, 0, 0);
        }
        int[] wrong = {-1, 3, Integer.MIN_VALUE, Integer.MAX_VALUE};
        for (int w : wrong) {
            Check.refusesIndex(g, "first", () -> g.addPane(w, 1, 2, -1, false, false));
            Check.refusesIndex(g, "second", () -> g.addPane(0, w, 2, -1, false, false));
            Check.refusesIndex(g, "third", () -> g.addPane(0, 1, w, -1, false, false));
        }
        Check.refusesIndex(g, "third, pattern too", () -> g.addPane(0, 1, 3, 9, false, false));
        Check.refusesIndex(g, "third, two the same", () -> g.addPane(0, 0, 3, -1, false, false));
        Check.refusesArgument(g, "first two", () -> g.addPane(1, 1, 2, -1, false, false));
        Check.refusesArgument(g, "last two", () -> g.addPane(0, 2, 2, -1, false, false));
        Check.refusesArgument(g, "first and third", () -> g.addPane(0, 1, 0, -1, false, false));
        Check.refusesArgument(g, "all three", () -> g.addPane(1, 1, 1, -1, false, false));
        Check.refusesArgument(g, "pattern -2", () -> g.addPane(0, 1, 2, -2, false, false));
        Check.refusesArgument(g, "pattern 4", () -> g.addPane(0, 1, 2, 4, false, false));
        Scenes.fillPanes(g);
        Check.refusesState(g, "the 31st pane", () -> g.addPane(0, 1, 2, -1, false, false));
        Check.refusesIndex(g, "the 31st, index", () -> g.addPane(0, 1, 3, -1, false, false));
        Check.refusesArgument(g, "the 31st, same", () -> g.addPane(0, 1, 1, -1, false, false));
        Check.refusesArgument(g, "the 31st, pattern", () -> g.addPane(0, 1, 2, 4, false, false));
        Check.is("panes stay 30", g.panes(), 30);
    }

    private static void show() {
        GlassRaster g = Scenes.flat();
        Scenes.triangle(g, 1, 1, 9);
        Scenes.pane(g, 0, false);
        Scenes.pane(g, 0, false);
        Check.is("show answers whether it was", g.show(0, false), true);
        Check.is("not shown", g.show(0, false), false);
        Check.is("the other is still drawn", g.colourNow(1, 1), 9);
        Check.is("the other was shown", g.show(1, false), true);
        Check.is("none is drawn", g.colourNow(1, 1), 0);
        Check.is("shown again", g.show(0, true), false);
        Check.is("drawn again", g.colourNow(1, 1), 9);
        Check.refusesIndex(g, "show(-1)", () -> g.show(-1, true));
        Check.refusesIndex(g, "show(2)", () -> g.show(2, true));
    }

    private static void setPattern() {
        GlassRaster g = new GlassRaster();
        for (int i = 0; i < 256; i++) {
            Check.is("at first 0", g.setPattern(i / 64, i % 8, i / 8 % 8, i + 1), 0);
        }
        for (int i = 0; i < 256; i++) {
            Check.is("the one before", g.setPattern(i / 64, i % 8, i / 8 % 8, 16777215), i + 1);
        }
        setPatternRefused();
    }

    private static void setPatternRefused() {
        GlassRaster g = new GlassRaster();
        g.setPattern(0, 0, 0, 16777215);
        g.setPattern(3, 7, 7, 16777215);
        Check.is("the most", g.setPattern(3, 7, 7, 0), 16777215);
        Check.is("the least", g.setPattern(3, 7, 7, 0), 0);
        int[] wrong = {-1, 8, Integer.MIN_VALUE, Integer.MAX_VALUE};
        for (int w : wrong) {
            Check.refusesIndex(g, "column", () -> g.setPattern(0, w, 0, 0));
            Check.refusesIndex(g, "row", () -> g.setPattern(0, 0, w, 0));
        }
        Check.refusesIndex(g, "pattern -1", () -> g.setPattern(-1, 0, 0, 0));
        Check.refusesIndex(g, "pattern 4", () -> g.setPattern(4, 0, 0, 0));
        Check.refusesIndex(g, "pattern 4, colour too", () -> g.setPattern(4, 0, 0, -1));
        Check.refusesIndex(g, "column 8, colour too", () -> g.setPattern(0, 8, 0, -1));
        Check.refusesIndex(g, "row 8, colour too", () -> g.setPattern(0, 0, 8, 16777216));
        Check.refusesArgument(g, "colour -1", () -> g.setPattern(0, 0, 0, -1));
        Check.refusesArgument(g, "colour 16777216", () -> g.setPattern(0, 0, 0, 16777216));
        Check.is("nothing was changed", g.setPattern(0, 0, 0, 1), 16777215);
    }

    private static void setRepeats() {
        GlassRaster g = new GlassRaster();
        for (int i = 0; i < 4; i++) {
            Check.is("at first it repeats", g.setRepeats(i, false), true);
        }
        for (int i = 0; i < 4; i++) {
            Check.is("it ends", g.setRepeats(i, true), false);
            Check.is("it repeats", g.setRepeats(i, true), true);
        }
        Check.refusesIndex(g, "setRepeats(-1)", () -> g.setRepeats(-1, true));
        Check.refusesIndex(g, "setRepeats(4)", () -> g.setRepeats(4, true));
    }

    private static void setCamera() {
        GlassRaster g = new GlassRaster();
        Check.is("setCamera without corners", g.setCamera(0, 0, 0, 0, 0), 0);
        g.addCorner(100, 200, 300, 0, 0, 0);
        g.addCorner(-1, 0, -1, 0, 0, 0);
        g.addCorner(2000, 2000, 2000, 0, 0, 0);
        Check.is("row X", g.setCamera(0, 512, -1024, 2048, 3), 3);
        Check.is("row Y", g.setCamera(1, 1, 0, 0, -4), 3);
        Check.is("row Z, Z of 100 is in front", g.setCamera(2, 0, 0, 1024, 101), 3);
        Check.is("row Z, Z of 99 is not", g.setCamera(2, 0, 0, 1024, 100), 2);
        Check.is("X", g.seen(0, 0), 50 - 200 + 600 + 3);
        Check.is("Y, cut downwards", g.seen(1, 1), -5);
        Check.is("Y", g.seen(0, 1), -4);
        Check.is("most", g.setCamera(0, 4096, 4096, 4096, 5000), 2);
        Check.is("least", g.setCamera(1, -4096, -4096, -4096, -5000), 2);
        Check.is("most X", g.seen(2, 0), 29000);
        Check.is("least Y", g.seen(2, 1), -29000);
        int[] wrong = {-4097, 4097, Integer.MIN_VALUE, Integer.MAX_VALUE};
        for (int w : wrong) {
            Check.refusesArgument(g, "a", () -> g.setCamera(0, w, 0, 0, 0));
            Check.refusesArgument(g, "b", () -> g.setCamera(1, 0, w, 0, 0));
            Check.refusesArgument(g, "c", () -> g.setCamera(2, 0, 0, w, 0));
        }
        Check.refusesArgument(g, "t -5001", () -> g.setCamera(0, 0, 0, 0, -5001));
        Check.refusesArgument(g, "t 5001", () -> g.setCamera(0, 0, 0, 0, 5001));
        Check.refusesIndex(g, "row -1", () -> g.setCamera(-1, 0, 0, 0, 0));
        Check.refusesIndex(g, "row 3", () -> g.setCamera(3, 0, 0, 0, 0));
        Check.refusesIndex(g, "row 3, a too", () -> g.setCamera(3, 4097, 0, 0, 0));
        Check.refusesIndex(g, "row 3, t too", () -> g.setCamera(3, 0, 0, 0, 5001));
    }

    private static void setLens() {
        GlassRaster g = new GlassRaster();
        Check.is("setLens without corners", g.setLens(1, 1), 0);
        g.addCorner(10, 10, 0, 0, 0, 0);
        g.addCorner(10, 10, 1, 0, 0, 0);
        g.addCorner(10, 10, 500, 0, 0, 0);
        g.addPane(0, 1, 2, -1, false, false);
        Check.is("500 is near", g.setLens(500, 500), 3);
        Check.is("sx with 500", g.screenOf(0, 0, 0), 320 + 80000 / 500);
        Check.is("depth of near", g.screenOf(0, 0, 2), 0);
        Check.is("501 is near", g.setLens(501, 1), 2);
        Check.is("1000 is near", g.setLens(1000, 1), 1);
        Check.is("1 is near", g.setLens(1, 1), 3);
        Check.is("sx with 1", g.screenOf(0, 0, 0), 320);
        Check.is("depth with near 1", g.screenOf(0, 0, 2), 65535 - 131);
        Check.refusesArgument(g, "near 0", () -> g.setLens(0, 1));
        Check.refusesArgument(g, "near 1001", () -> g.setLens(1001, 1));
        Check.refusesArgument(g, "near, least", () -> g.setLens(Integer.MIN_VALUE, 1));
        Check.refusesArgument(g, "focus 0", () -> g.setLens(10, 0));
        Check.refusesArgument(g, "focus 501", () -> g.setLens(10, 501));
        Check.refusesArgument(g, "focus, most", () -> g.setLens(10, Integer.MAX_VALUE));
    }

    private static void setBackground() {
        GlassRaster g = new GlassRaster();
        Check.is("setBackground", g.setBackground(16777215), 0);
        Check.is("the picture stays", g.colourAt(0, 0), 0);
        Check.is("it is drawn now", g.colourNow(0, 0), 16777215);
        Check.is("all is stale", g.stale(), 15);
        Check.is("the one before", g.setBackground(7), 16777215);
        Check.is("clear takes it", g.clear(), 0);
        Check.is("in the picture", g.colourAt(39, 23), 7);
        Check.refusesArgument(g, "setBackground(-1)", () -> g.setBackground(-1));
        Check.refusesArgument(g, "setBackground(16777216)", () -> g.setBackground(16777216));
        Check.is("it stays", g.setBackground(0), 7);
    }

    private static void counts() {
        GlassRaster g = new GlassRaster();
        for (int i = 1; i <= 40; i++) {
            g.addCorner(0, 0, 0, 0, 0, 0);
            Check.is("corners", g.corners(), i);
            Check.is("panes", g.panes(), 0);
        }
        for (int i = 1; i <= 30; i++) {
            g.addPane(0, 1, 2, -1, false, false);
            Check.is("panes", g.panes(), i);
            Check.is("corners", g.corners(), 40);
        }
    }
}
