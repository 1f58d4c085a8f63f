/** Boundary cases of promises 23 to 31: the picture. */
public final class PictureEdgesTest {
    private static final String PICTURE = "The picture is what was drawn last; at first, and"
            + " behind clear(), it is a screen ahead of drawing with the background as it is then.";
    private static final String AHEAD = "ahead of drawing these are the background (a colour, at"
            + " first 0), 65535, and -1.";
    private static final String BY_NUMBERS = "Panes are drawn by numbers, those that are shown,"
            + " and the pieces of a pane in order.";
    private static final String NEARER = "A point in a piece is painted if its depth there is less"
            + " than that of the point: of a pane that is not clear, it gets the colour, the depth"
            + " and the pane.";
    private static final String CLEAR = "Of a clear one it gets the colour whose r, g and b are"
            + " (what was there + that of the pane) / 2 each; its depth and its pane stay.";
    private static final String TILES = "The screen is cut into tiles of 8 times 8 points: 5 in"
            + " each of 3 rows, numbered line by line from 0.";
    private static final String STALE = "A tile is stale if, drawn now, one of its points would"
            + " have another colour, depth or pane than in the picture.";
    private static final String NO_POINT =
            "Throws `IndexOutOfBoundsException` if x is not 0 to 39, or y is not 0 to 23";

    public static void main(String[] args) {
        edges().run();
    }

    static Edges edges() {
        Edges edges = new Edges();
        clear(edges);
        paint(edges);
        nearerIsPainted(edges);
        clearPanes(edges);
        drawnInOrder(edges);
        stale(edges);
        staleByOneNumber(edges);
        isStale(edges);
        pointsOfThePicture(edges);
        cornersOfTheScreen(edges);
        pointsWith(edges);
        colours(edges);
        refused(edges);
        return edges;
    }

    private static void blank(GlassRaster g, int background) {
        int[][] points = {{0, 0}, {39, 0}, {0, 23}, {39, 23}, {20, 12}};
        for (int[] at : points) {
            Check.is("colourAt", g.colourAt(at[0], at[1]), background);
            Check.is("depthAt", g.depthAt(at[0], at[1]), 65535);
            Check.is("paneAt", g.paneAt(at[0], at[1]), -1);
        }
        Check.is("colours", g.colours(), 1);
    }

    private static GlassRaster whole(int colour, boolean isClear) {
        GlassRaster g = Scenes.flat();
        Scenes.pane(g, Scenes.whole(g, colour), isClear);
        return g;
    }

    private static void clear(Edges edges) {
        edges.of(23, "The picture is a screen ahead of drawing.", "a picture full of a pane",
                () -> {
            GlassRaster g = whole(9, false);
            g.paint();
            Check.is("painted", g.pointsWith(0), 960);
            g.clear();
            blank(g, 0);
            Check.is("nothing of the pane", g.pointsWith(0), 0);
        });
        edges.of(23, PICTURE, "the background as it is then", () -> {
            GlassRaster g = new GlassRaster();
            g.setBackground(16777215);
            blank(g, 0);
            g.clear();
            blank(g, 16777215);
            g.setBackground(7);
            blank(g, 16777215);
            g.clear();
            blank(g, 7);
        });
        edges.of(23, "Returns how many tiles are stale then.", "none, one and 15", () -> {
            Check.is("without panes", new GlassRaster().clear(), 0);
            GlassRaster g = Scenes.flat();
            Check.is("without panes, another background", cleared(g, 5), 0);
            Scenes.pane(g, Scenes.dot(g, 0, 0, 9), false);
            Check.is("one point", g.clear(), 1);
            g.paint();
            Check.is("one point that was painted", g.clear(), 1);
            g.show(0, false);
            Check.is("not shown", g.clear(), 0);
            Check.is("the whole screen", whole(9, false).clear(), 15);
            Check.is("clear glass of the background's colour", whole(0, true).clear(), 0);
        });
    }

    private static int cleared(GlassRaster g, int background) {
        g.setBackground(background);
        return g.clear();
    }

    private static void paint(Edges edges) {
        edges.of(24, "Returns how many these were.", "none, one and 15", () -> {
            Check.is("a new object", new GlassRaster().paint(), 0);
            GlassRaster g = whole(9, false);
            Check.is("all", g.paint(), 15);
            Check.is("none", g.paint(), 0);
            Scenes.dot(g, 39, 23, 8);
            g.addPane(3, 4, 5, -1, false, false);
            Check.is("behind it in number, not nearer", g.paint(), 0);
            g.moveCorner(0, -1999, -2000, 1);
            Check.holds("some are stale", g.stale() > 0);
            g.show(0, false);
            Check.is("another background", g.paint(), 15);
            g.setColour(3, 7);
            g.setColour(4, 7);
            g.setColour(5, 7);
            Check.is("one", g.paint(), 1);
        });
        edges.of(24, "paint() draws the stale tiles anew.", "none is stale then", () -> {
            GlassRaster g = Stage.FULL.make();
            int stale = g.stale();
            Check.holds("some are stale, some are not", stale > 0 && stale < 15);
            Check.is("paint", g.paint(), stale);
            Check.is("stale", g.stale(), 0);
            Check.is("paint again", g.paint(), 0);
            for (int i = 0; i < 40; i++) {
                Check.is("drawn as it is now", g.colourAt(i, i % 24), g.colourNow(i, i % 24));
            }
        });
    }

    /** Two panes over the whole screen with depths that differ by one: 65280 and 65281. */
    private static GlassRaster byOne(boolean isNearerFirst, boolean isSecondClear) {
        GlassRaster g = new GlassRaster();
        g.setLens(1, 40);
        g.setCamera(2, 0, 0, 1024, 257);
        int[] z = {isNearerFirst ? 0 : 1, isNearerFirst ? 1 : 0};
        for (int i = 0; i < 2; i++) {
            int first = g.addCorner(-2000, -2000, z[i], i + 1, 0, 0);
            g.addCorner(2000, -2000, z[i], i + 1, 0, 0);
            g.addCorner(0, 2000, z[i], i + 1, 0, 0);
            Scenes.pane(g, first, i == 1 && isSecondClear);
        }
        g.paint();
        return g;
    }

    private static void point(GlassRaster g, int colour, int depth, int pane) {
        int[][] points = {{0, 0}, {39, 23}};
        for (int[] at : points) {
            Check.is("colourAt", g.colourAt(at[0], at[1]), colour);
            Check.is("depthAt", g.depthAt(at[0], at[1]), depth);
            Check.is("paneAt", g.paneAt(at[0], at[1]), pane);
        }
    }

    private static void nearerIsPainted(Edges edges) {
        edges.of(24, NEARER, "nearer by one", () -> point(byOne(false, false), 2, 65280, 1));
        edges.of(24, NEARER, "farther by one", () -> point(byOne(true, false), 1, 65280, 0));
        edges.of(24, NEARER, "of the same depth", () -> {
            GlassRaster g = whole(9, false);
            Scenes.pane(g, Scenes.whole(g, 8), false);
            Scenes.pane(g, Scenes.whole(g, 0xFFFFFF), true);
            g.paint();
            point(g, 9, 55296, 0);
        });
        edges.of(24, NEARER, "at the depth 0, and not painted over there", () -> {
            GlassRaster g = whole(9, false);
            Scenes.pane(g, Scenes.whole(g, 8), false);
            g.setLens(640, 40);
            g.paint();
            point(g, 9, 0, 0);
        });
        edges.of(24, NEARER, "as far out as it can be", () -> {
            GlassRaster g = new GlassRaster();
            g.setLens(1, 500);
            g.setCamera(0, 0, 1024, 0, -2000);
            g.setCamera(1, 0, 0, 1024, -2000);
            g.setCamera(2, 4096, 4096, 4096, 5000);
            g.addCorner(2000, 2000, 2000, 9, 0, 0);
            g.addCorner(2000, 1000, 2000, 9, 0, 0);
            g.addCorner(2000, 2000, 1000, 9, 0, 0);
            g.addPane(0, 1, 2, -1, false, true);
            g.paint();
            Check.is("depthAt", g.depthAt(18, 5), 65533);
            Check.is("colourAt", g.colourAt(18, 5), 9);
        });
    }

    private static void clearPanes(Edges edges) {
        edges.of(24, CLEAR, "halves are cut, each of r, g and b apart", () -> {
            GlassRaster g = whole(0x0001FF, true);
            g.setBackground(0x0100FF);
            g.paint();
            point(g, 0x0000FF, 65535, -1);
            g.setBackground(0xFFFEFD);
            g.paint();
            point(g, 0x7F7FFE, 65535, -1);
        });
        edges.of(24, CLEAR, "white on white and black on black", () -> {
            GlassRaster white = whole(0xFFFFFF, true);
            white.setBackground(0xFFFFFF);
            white.paint();
            point(white, 0xFFFFFF, 65535, -1);
            GlassRaster black = whole(0, true);
            black.paint();
            point(black, 0, 65535, -1);
        });
        edges.of(24, CLEAR, "nearer by one than a pane, and farther by one", () -> {
            point(byOne(false, true), 1, 65281, 0);
            point(byOne(true, true), 1, 65280, 0);
            GlassRaster g = byOne(false, true);
            for (int i = 3; i < 6; i++) {
                g.setColour(i, 0xFF);
            }
            g.paint();
            point(g, 0x80, 65281, 0);
        });
        edges.of(24, CLEAR, "two of the same depth both paint", () -> {
            GlassRaster g = whole(0xFF0000, true);
            Scenes.pane(g, Scenes.whole(g, 0x00FF00), true);
            g.paint();
            point(g, 0x3F7F00, 65535, -1);
        });
        edges.of(28, CLEAR, "its depth stays", () -> {
            GlassRaster g = whole(0xFF0000, true);
            g.paint();
            Check.is("depthAt", g.depthAt(20, 12), 65535);
        });
        edges.of(29, CLEAR, "its pane stays", () -> {
            GlassRaster g = whole(0xFF0000, true);
            g.paint();
            Check.is("paneAt", g.paneAt(20, 12), -1);
        });
    }

    private static void drawnInOrder(Edges edges) {
        edges.of(24, BY_NUMBERS, "a clear pane ahead of one behind it", () -> {
            GlassRaster g = Scenes.flat();
            Scenes.triangle(g, 2, 2, 0xFF0000);
            Scenes.farTriangle(g, 2, 2, 0x00FF00);
            Scenes.pane(g, 0, true);
            Scenes.pane(g, 3, false);
            g.paint();
            Check.is("painted over", g.colourAt(2, 2), 0x00FF00);
            Scenes.pane(g, 0, true);
            g.paint();
            Check.is("the next one is not", g.colourAt(2, 2), 0x7F7F00);
        });
        edges.of(24, BY_NUMBERS, "those that are shown", () -> {
            GlassRaster g = whole(9, false);
            Scenes.pane(g, Scenes.whole(g, 8), false);
            g.show(0, false);
            g.paint();
            point(g, 8, 55296, 1);
            g.show(1, false);
            g.paint();
            point(g, 0, 65535, -1);
        });
        edges.of(24, BY_NUMBERS, "the first and the last of 30", () -> {
            GlassRaster g = Scenes.flat();
            Scenes.whole(g, 9);
            Scenes.fillPanes(g);
            g.paint();
            point(g, 9, 55296, 0);
            for (int pane = 0; pane < 29; pane++) {
                g.show(pane, false);
            }
            g.paint();
            point(g, 9, 55296, 29);
        });
        edges.of(24, BY_NUMBERS, "the pieces of a clear pane", () -> {
            GlassRaster g = Scenes.folded(true, true);
            g.paint();
            Check.is("green, then purple", g.colourAt(18, 13), 0x3F3F3F);
            Check.is("the depth stays", g.depthAt(18, 13), 65535);
        });
        edges.of(24, BY_NUMBERS, "the second piece is nearer, or it is not", () -> {
            GlassRaster nearer = Scenes.folded(false, true);
            nearer.paint();
            Check.is("the second one's colour", nearer.colourAt(18, 13), 0x7F007F);
            Check.is("the second one's depth", nearer.depthAt(18, 13), 0);
            GlassRaster behind = Scenes.foldedBehind(false);
            behind.paint();
            Check.is("the first one's colour", behind.colourAt(21, 3), behind.colourOf(0, 21, 3));
            Check.is("the first one's depth", behind.depthAt(21, 3), 0);
            Check.is("the only one's depth", behind.depthAt(20, 9), 43690);
        });
    }

    private static void stale(Edges edges) {
        edges.of(25, "Returns how many tiles are stale.", "none, one and 15", () -> {
            Check.is("a new object", new GlassRaster().stale(), 0);
            GlassRaster g = Scenes.flat();
            Scenes.pane(g, Scenes.dot(g, 39, 0, 9), false);
            Check.is("one", g.stale(), 1);
            Scenes.pane(g, Scenes.whole(g, 8), false);
            Check.is("all", g.stale(), 15);
            g.paint();
            Check.is("none", g.stale(), 0);
            Check.is("none still", g.stale(), 0);
        });
        edges.of(25, STALE, "one of its points is enough", () -> {
            for (int i = 0; i < 64; i++) {
                GlassRaster g = Scenes.flat();
                Scenes.pane(g, Scenes.dot(g, 16 + i % 8, 8 + i / 8, 9), false);
                Check.is("stale", g.stale(), 1);
                Check.is("isStale(7)", g.isStale(7), true);
            }
        });
        edges.of(25, STALE, "what was changed and changed back", () -> {
            GlassRaster g = whole(9, false);
            g.paint();
            g.setColour(1, 8);
            Check.holds("changed", g.stale() > 0);
            g.setColour(1, 9);
            Check.is("changed back", g.stale(), 0);
        });
    }

    private static void staleByOneNumber(Edges edges) {
        edges.of(25, STALE, "another colour alone", () -> {
            GlassRaster g = whole(9, false);
            g.paint();
            for (int i = 0; i < 3; i++) {
                g.setColour(i, 8);
            }
            Check.is("stale", g.stale(), 15);
            Check.is("isStale(14)", g.isStale(14), true);
            Check.is("paint", g.paint(), 15);
            Check.is("colourAt", g.colourAt(39, 23), 8);
        });
        edges.of(25, STALE, "another depth alone", () -> {
            GlassRaster g = whole(9, false);
            g.paint();
            g.setLens(101, 40);
            Check.is("stale", g.stale(), 15);
            Check.is("isStale(14)", g.isStale(14), true);
            Check.is("paint", g.paint(), 15);
            Check.is("depthAt", g.depthAt(39, 23), 55193);
        });
        edges.of(25, STALE, "another pane alone", () -> {
            GlassRaster g = whole(9, false);
            Scenes.pane(g, 0, false);
            g.paint();
            g.show(0, false);
            Check.is("stale", g.stale(), 15);
            Check.is("isStale(14)", g.isStale(14), true);
            Check.is("paint", g.paint(), 15);
            Check.is("paneAt", g.paneAt(39, 23), 1);
        });
        edges.of(25, STALE, "a pane that is not seen", () -> {
            GlassRaster g = whole(9, false);
            Scenes.pane(g, Scenes.whole(g, 8), false);
            g.paint();
            g.show(1, false);
            Check.is("stale", g.stale(), 0);
        });
    }

    private static void isStale(Edges edges) {
        edges.of(26, TILES, "the points on either side of a border", () -> {
            int[][] points = {{0, 0}, {7, 0}, {8, 0}, {31, 7}, {32, 7}, {39, 7}, {0, 7}, {0, 8},
                {7, 8}, {8, 8}, {39, 15}, {39, 16}, {0, 16}, {0, 23}, {7, 23}, {8, 23}, {32, 16},
                {31, 23}, {39, 23}};
            int[] tiles = {0, 0, 1, 3, 4, 4, 0, 5, 5, 6, 9, 14, 10, 10, 10, 11, 14, 13, 14};
            for (int i = 0; i < tiles.length; i++) {
                GlassRaster g = Scenes.flat();
                Scenes.pane(g, Scenes.dot(g, points[i][0], points[i][1], 9), false);
                for (int tile = 0; tile < 15; tile++) {
                    Check.is("point " + points[i][0] + ", " + points[i][1] + ", tile " + tile,
                            g.isStale(tile), tile == tiles[i]);
                }
            }
        });
        edges.of(26, "Returns whether it is stale.", "none and all", () -> {
            GlassRaster g = new GlassRaster();
            for (int tile = 0; tile < 15; tile++) {
                Check.is("of a new object", g.isStale(tile), false);
            }
            g.setBackground(1);
            for (int tile = 0; tile < 15; tile++) {
                Check.is("with another background", g.isStale(tile), true);
            }
        });
        edges.of(26, "Returns whether it is stale.", "the picture, not a screen ahead of drawing",
                () -> {
            GlassRaster g = whole(9, false);
            g.seenOf(0);
            g.paint();
            g.clear();
            Check.is("cleared", g.isStale(7), true);
            g.paint();
            Check.is("painted", g.isStale(7), false);
            g.show(0, false);
            Check.is("not shown", g.isStale(7), true);
        });
        edges.of(26, "Throws `IndexOutOfBoundsException` if tile is not 0 to 14", "",
                () -> Refused.outside(Stage.SOME, Refused.INDEX, 0, 14, (g, n) -> g.isStale(n)));
    }

    private static void pointsOfThePicture(Edges edges) {
        edges.of(27, PICTURE, "what was drawn last, not what is drawn now", () -> {
            GlassRaster g = whole(9, false);
            Check.is("at first", g.colourAt(39, 23), 0);
            g.paint();
            g.show(0, false);
            Check.is("it would be another", g.stale(), 15);
            Check.is("colourAt", g.colourAt(39, 23), 9);
            g.paint();
            Check.is("painted again", g.colourAt(39, 23), 0);
        });
        edges.of(27, "Returns its colour in the picture.", "0 and 16777215", () -> {
            GlassRaster g = whole(16777215, false);
            Check.is("black", g.colourAt(0, 0), 0);
            g.paint();
            Check.is("white", g.colourAt(0, 0), 16777215);
        });
        edges.of(27, AHEAD, "the background", () -> {
            GlassRaster g = new GlassRaster();
            g.setBackground(0xABCDEF);
            g.paint();
            blank(g, 0xABCDEF);
        });
        edges.of(28, "Returns its depth in the picture.", "65535, 0 and what is drawn now", () -> {
            GlassRaster g = whole(9, false);
            g.setLens(640, 40);
            Check.is("at first", g.depthAt(0, 0), 65535);
            g.paint();
            Check.is("the least", g.depthAt(0, 0), 0);
            g.setLens(100, 40);
            Check.is("it would be another", g.stale(), 15);
            Check.is("it stays", g.depthAt(0, 0), 0);
        });
        edges.of(29, "Returns its pane in the picture; -1 without one.", "-1, 0 and 29", () -> {
            GlassRaster g = whole(9, false);
            Check.is("at first", g.paneAt(0, 0), -1);
            g.paint();
            Check.is("the first one", g.paneAt(0, 0), 0);
            Scenes.fillPanes(g);
            for (int pane = 0; pane < 29; pane++) {
                g.show(pane, false);
            }
            Check.is("it would be another", g.stale(), 15);
            Check.is("it stays", g.paneAt(0, 0), 0);
            g.paint();
            Check.is("the last one", g.paneAt(39, 23), 29);
            g.clear();
            Check.is("without one", g.paneAt(39, 23), -1);
        });
    }

    /** Four panes of one point each, one in each corner of the screen; only these are nearer. */
    private static GlassRaster fourDots() {
        GlassRaster g = Scenes.flat();
        for (int i = 0; i < 4; i++) {
            int first = Scenes.dot(g, i % 2 * 39, i / 2 * 23, 10 + i);
            Scenes.pane(g, first, false);
        }
        g.setBackground(5);
        g.paint();
        return g;
    }

    private static void dot(int got, int x, int y, int dueThere, int dueBeside) {
        boolean isThere = (x == 0 || x == 39) && (y == 0 || y == 23);
        Check.is("at " + x + ", " + y, got, isThere ? dueThere : dueBeside);
    }

    private static void cornersOfTheScreen(Edges edges) {
        int[] x = {0, 1, 38, 39};
        int[] y = {0, 1, 22, 23};
        edges.of(27, "Returns its colour in the picture.",
                "in the corners of the screen", () -> {
            GlassRaster g = fourDots();
            for (int i = 0; i < 16; i++) {
                int pane = (i % 4 == 3 ? 1 : 0) + (i / 4 == 3 ? 2 : 0);
                dot(g.colourAt(x[i % 4], y[i / 4]), x[i % 4], y[i / 4], 10 + pane, 5);
            }
        });
        edges.of(28, "Returns its depth in the picture.",
                "in the corners of the screen", () -> {
            GlassRaster g = fourDots();
            for (int i = 0; i < 16; i++) {
                dot(g.depthAt(x[i % 4], y[i / 4]), x[i % 4], y[i / 4], 55296, 65535);
            }
        });
        edges.of(29, "Returns its pane in the picture; -1 without one.",
                "in the corners of the screen", () -> {
            GlassRaster g = fourDots();
            for (int i = 0; i < 16; i++) {
                int pane = (i % 4 == 3 ? 1 : 0) + (i / 4 == 3 ? 2 : 0);
                dot(g.paneAt(x[i % 4], y[i / 4]), x[i % 4], y[i / 4], pane, -1);
            }
        });
    }

    private static void pointsWith(Edges edges) {
        edges.of(30, "Returns how many points of the picture have it.", "none, one and 960", () -> {
            GlassRaster g = whole(9, false);
            Check.is("it would have all", g.stale(), 15);
            Check.is("not painted", g.pointsWith(0), 0);
            g.paint();
            Check.is("all", g.pointsWith(0), 960);
            g.show(0, false);
            Check.is("not shown, not painted anew", g.pointsWith(0), 960);
            Scenes.pane(g, Scenes.dot(g, 39, 23, 0), false);
            g.paint();
            Check.is("none", g.pointsWith(0), 0);
            Check.is("one", g.pointsWith(1), 1);
        });
        edges.of(30, "Returns how many points of the picture have it.", "a clear one", () -> {
            GlassRaster g = whole(9, true);
            g.paint();
            Check.is("it has none", g.pointsWith(0), 0);
        });
    }

    /** Every point has a colour of its own: r is three times its column, g three times its line. */
    static GlassRaster allDifferent() {
        GlassRaster g = Scenes.flat();
        Scenes.corner(g, 0, 0, 0);
        Scenes.corner(g, 85, 0, 0xFF0000);
        Scenes.corner(g, 0, 85, 0x00FF00);
        Scenes.pane(g, 0, false);
        g.paint();
        return g;
    }

    private static void colours(Edges edges) {
        edges.of(31, "Returns how many different colours the picture has.", "one, two and 960",
                () -> {
            GlassRaster g = Scenes.flat();
            Check.is("black alone", g.colours(), 1);
            g.setBackground(0xFFFFFF);
            g.clear();
            Check.is("white alone", g.colours(), 1);
            Scenes.pane(g, Scenes.dot(g, 39, 23, 0), false);
            Check.is("one tile is stale", g.stale(), 1);
            Check.is("not painted yet", g.colours(), 1);
            g.paint();
            Check.is("two", g.colours(), 2);
            Check.is("all", allDifferent().colours(), 960);
        });
        edges.of(31, "Returns how many different colours the picture has.",
                "one, whichever it is", () -> {
            int[] colours = {0, 1, 2, 0xFF, 0x100, 0x10000, 0xFFFFFE, 0xFFFFFF};
            for (int colour : colours) {
                GlassRaster g = new GlassRaster();
                g.setBackground(colour);
                g.clear();
                Check.is("of " + colour, g.colours(), 1);
            }
        });
    }

    private static void refused(Edges edges) {
        edges.of(27, NO_POINT, "x", () -> Refused.outside(Stage.SOME, Refused.INDEX, 0, 39,
                (g, x) -> g.colourAt(x, 12)));
        edges.of(27, NO_POINT, "y", () -> Refused.outside(Stage.SOME, Refused.INDEX, 0, 23,
                (g, y) -> g.colourAt(20, y)));
        edges.of(28, NO_POINT, "x", () -> Refused.outside(Stage.SOME, Refused.INDEX, 0, 39,
                (g, x) -> g.depthAt(x, 12)));
        edges.of(28, NO_POINT, "y", () -> Refused.outside(Stage.SOME, Refused.INDEX, 0, 23,
                (g, y) -> g.depthAt(20, y)));
        edges.of(29, NO_POINT, "x", () -> Refused.outside(Stage.SOME, Refused.INDEX, 0, 39,
                (g, x) -> g.paneAt(x, 12)));
        edges.of(29, NO_POINT, "y", () -> Refused.outside(Stage.SOME, Refused.INDEX, 0, 23,
                (g, y) -> g.paneAt(20, y)));
        edges.of(30, "Throws `IndexOutOfBoundsException` if there is no such pane", "", () ->
                Refused.noSuchPane((g, pane) -> g.pointsWith(pane)));
    }
}
