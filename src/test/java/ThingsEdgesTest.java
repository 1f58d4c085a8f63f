/** Boundary cases of promises 1 to 13: what there is. */
public final class ThingsEdgesTest {
    private static final String NEW = "Creates a screen without corners and panes.";
    private static final String LENS =
            "a near distance (1 to 1000, at first 100) and a focus (1 to 500, at first 40).";
    private static final String CORNER_WRONG = "Throws `IllegalArgumentException` if x, y or z is"
            + " not -2000 to 2000, colour is not 0 to 16777215, or u or v is not 0 to 2047";
    private static final String NO_CORNER =
            "Throws `IndexOutOfBoundsException` if there is no such corner";
    private static final String NO_PANE =
            "Throws `IndexOutOfBoundsException` if there is no such pane";
    private static final String PLACE_WRONG =
            "Throws `IllegalArgumentException` if x, y or z is not -2000 to 2000";
    private static final String COLOUR_WRONG =
            "Throws `IllegalArgumentException` if colour is not 0 to 16777215";
    private static final String PANE_WRONG = "Throws `IllegalArgumentException` if two corners are"
            + " the same, or pattern is not -1 to 3";
    private static final String NO_PLACE_IN_PATTERN = "Throws `IndexOutOfBoundsException` if"
            + " pattern is not 0 to 3, or column or row is not 0 to 7";
    private static final String CAMERA_WRONG = "Throws `IllegalArgumentException` if a, b or c is"
            + " not -4096 to 4096, or t is not -5000 to 5000";
    private static final String LENS_WRONG =
            "Throws `IllegalArgumentException` if near is not 1 to 1000, or focus is not 1 to 500";
    private static final String IN_FRONT =
            "Returns how many corners have a Z of near or more then.";
    private static final String THE_ONE_BEFORE = "Returns the one before.";
    private static final String PANES_PARTS = "A pane has three different corners, in order (its"
            + " first, second and third one), a pattern (0 to 3) or none (-1), and is clear or"
            + " not, two-sided or not, and shown or not (at first shown).";
    private static final String PATTERNS_PARTS = "There are four patterns of 8 times 8 colours,"
            + " by column and row, at first all 0; each repeats or ends (at first it repeats).";

    public static void main(String[] args) {
        edges().run();
    }

    static Edges edges() {
        Edges edges = new Edges();
        newObject(edges);
        firstPicture(edges);
        addCorner(edges);
        addCornerRefused(edges);
        moveCorner(edges);
        setColour(edges);
        addPane(edges);
        addPaneRefused(edges);
        show(edges);
        setPattern(edges);
        setRepeats(edges);
        setCamera(edges);
        setCameraRefused(edges);
        setLens(edges);
        setBackground(edges);
        counts(edges);
        return edges;
    }

    private static void newObject(Edges edges) {
        edges.of(1, NEW, "no corners", () -> {
            Check.is("corners()", new GlassRaster().corners(), 0);
            Refused.by(Stage.EMPTY, Refused.INDEX, "seen(0, 0)", g -> g.seen(0, 0));
        });
        edges.of(1, NEW, "no panes", () -> {
            Check.is("panes()", new GlassRaster().panes(), 0);
            Refused.by(Stage.EMPTY, Refused.INDEX, "polygonOf(0)", g -> g.polygonOf(0));
        });
        edges.of(1, "At first the rows are 1024 0 0 0, 0 1024 0 0 and 0 0 1024 500.", "", () -> {
            GlassRaster g = new GlassRaster();
            int[][] places = {{2000, 0, 0}, {0, 2000, 0}, {0, 0, 2000}, {-2000, -1999, 1}};
            for (int i = 0; i < places.length; i++) {
                int[] at = places[i];
                g.addCorner(at[0], at[1], at[2], 0, 0, 0);
                Check.is("X of " + i, g.seen(i, 0), at[0]);
                Check.is("Y of " + i, g.seen(i, 1), at[1]);
                Check.is("Z of " + i, g.seen(i, 2), at[2] + 500);
            }
        });
        edges.of(1, LENS, "near is 100 at first", () -> {
            GlassRaster g = new GlassRaster();
            g.addCorner(0, 0, -400, 0, 0, 0);
            g.addCorner(0, 0, -401, 0, 0, 0);
            g.addCorner(0, 0, -401, 0, 0, 0);
            g.addPane(0, 1, 2, -1, false, false);
            Check.is("Z of 100 is near", g.polygonOf(0), 3);
            Check.is("Z of 99 is not", g.setCamera(0, 1024, 0, 0, 0), 1);
            Check.is("the depth of near", g.screenOf(0, 0, 2), 0);
        });
        edges.of(1, LENS, "focus is 40 at first", () -> {
            GlassRaster g = new GlassRaster();
            for (int i = 0; i < 3; i++) {
                g.addCorner(1000, -1000, 500, 0, 0, 0);
            }
            g.addPane(0, 1, 2, -1, false, false);
            Check.is("sx", g.screenOf(0, 0, 0), 320 + 640);
            Check.is("sy", g.screenOf(0, 0, 1), 192 - 640);
        });
    }

    private static void firstPicture(Edges edges) {
        edges.of(1, "ahead of drawing these are the background (a colour, at first 0), 65535,"
                + " and -1.", "the picture of a new object", () -> {
            GlassRaster g = new GlassRaster();
            int[][] points = {{0, 0}, {39, 0}, {0, 23}, {39, 23}};
            for (int[] at : points) {
                Check.is("colourAt", g.colourAt(at[0], at[1]), 0);
                Check.is("depthAt", g.depthAt(at[0], at[1]), 65535);
                Check.is("paneAt", g.paneAt(at[0], at[1]), -1);
            }
            Check.is("colours()", g.colours(), 1);
            Check.is("stale()", g.stale(), 0);
        });
        edges.of(1, "An object is used for at most 512 calls after it has been made",
                "the 512th call", () -> {
            GlassRaster g = Scenes.flat();
            Scenes.triangle(g, 6, 6, 9);
            Scenes.pane(g, 0, false);
            for (int call = 6; call < 512; call++) {
                g.moveCorner(0, call == 511 ? 16 * 6 + 8 - 320 : call, 16 * 6 + 8 - 192, 0);
            }
            Check.is("colourNow(6, 6)", g.colourNow(6, 6), 9);
        });
    }

    private static void addCorner(Edges edges) {
        edges.of(2, "There are at most 40 corners, numbered from 0.", "40 are taken", () -> {
            GlassRaster g = new GlassRaster();
            for (int i = 0; i < 40; i++) {
                Check.is("addCorner", g.addCorner(i, 0, 0, 0, 0, 0), i);
            }
            Check.is("the first one", g.seen(0, 0), 0);
            Check.is("the last one", g.seen(39, 0), 39);
        });
        edges.of(2, "Returns the number of the new corner.", "the first one, and after a refusal",
                () -> {
            GlassRaster g = new GlassRaster();
            Check.is("the first", g.addCorner(0, 0, 0, 0, 0, 0), 0);
            Check.holds("refused", isRefused(() -> g.addCorner(0, 0, 2001, 0, 0, 0)));
            Check.is("the next", g.addCorner(0, 0, 0, 0, 0, 0), 1);
        });
        edges.of(2, "A corner has x, y and z (-2000 to 2000), a colour, and u and v (0 to 2047).",
                "the least and the most are kept", () -> {
            GlassRaster g = new GlassRaster();
            g.setCamera(2, 0, 0, 1024, 3000);
            g.addCorner(-2000, -2000, -2000, 0, 0, 0);
            g.addCorner(2000, 2000, 2000, 16777215, 2047, 2047);
            g.addCorner(2000, -2000, 2000, 16777215, 0, 2047);
            g.addPane(0, 1, 2, -1, false, false);
            int[][] due = {{-2000, -2000, 1000, 0, 0, 0},
                {2000, 2000, 5000, 2047, 2047, 16777215}, {2000, -2000, 5000, 0, 2047, 16777215}};
            for (int k = 0; k < 3; k++) {
                for (int what = 0; what < 6; what++) {
                    Check.is("cornerOf(0, " + k + ", " + what + ")", g.cornerOf(0, k, what),
                            due[k][what]);
                }
            }
        });
        edges.of(2, "A colour is a number r * 65536 + g * 256 + b, with r, g and b from 0 to 255.",
                "the most of each alone", () -> {
            int[] most = {0xFF0000, 0x00FF00, 0x0000FF};
            GlassRaster g = Scenes.flat();
            for (int colour : most) {
                int first = Scenes.triangle(g, 6, 6, colour);
                int pane = Scenes.pane(g, first, false);
                Check.is("cornerOf", g.cornerOf(pane, 0, 5), colour);
                Check.is("colourOf", g.colourOf(pane, 7, 7), colour);
            }
        });
    }

    private static boolean isRefused(Runnable call) {
        try {
            call.run();
            return false;
        } catch (RuntimeException e) {
            return true;
        }
    }

    private static void addCornerRefused(Edges edges) {
        edges.of(2, CORNER_WRONG, "x", () -> Refused.outside(Stage.SOME, Refused.ARGUMENT,
                -2000, 2000, (g, x) -> g.addCorner(x, 0, 0, 0, 0, 0)));
        edges.of(2, CORNER_WRONG, "y", () -> Refused.outside(Stage.SOME, Refused.ARGUMENT,
                -2000, 2000, (g, y) -> g.addCorner(0, y, 0, 0, 0, 0)));
        edges.of(2, CORNER_WRONG, "z", () -> Refused.outside(Stage.SOME, Refused.ARGUMENT,
                -2000, 2000, (g, z) -> g.addCorner(0, 0, z, 0, 0, 0)));
        edges.of(2, CORNER_WRONG, "colour", () -> Refused.outside(Stage.SOME, Refused.ARGUMENT,
                0, 16777215, (g, colour) -> g.addCorner(0, 0, 0, colour, 0, 0)));
        edges.of(2, CORNER_WRONG, "u", () -> Refused.outside(Stage.SOME, Refused.ARGUMENT,
                0, 2047, (g, u) -> g.addCorner(0, 0, 0, 0, u, 0)));
        edges.of(2, CORNER_WRONG, "v", () -> Refused.outside(Stage.SOME, Refused.ARGUMENT,
                0, 2047, (g, v) -> g.addCorner(0, 0, 0, 0, 0, v)));
        edges.of(2, "Throws `IllegalStateException` if there are 40", "the 40th and the 41st",
                () -> {
            GlassRaster g = new GlassRaster();
            for (int i = 0; i < 39; i++) {
                g.addCorner(0, 0, 0, 0, 0, 0);
            }
            Check.is("the 40th", g.addCorner(0, 0, 0, 0, 0, 0), 39);
            Refused.by(Stage.FULL, Refused.STATE, "the 41st",
                    full -> full.addCorner(0, 0, 0, 0, 0, 0));
        });
        edges.of(2, Edges.FIRST_NAMED, "there are 40, and an argument is wrong", () -> {
            Refused.beyond(Stage.FULL, Refused.ARGUMENT, -2000, 2000,
                    (g, x) -> g.addCorner(x, 0, 0, 0, 0, 0));
            Refused.beyond(Stage.FULL, Refused.ARGUMENT, 0, 16777215,
                    (g, colour) -> g.addCorner(0, 0, 0, colour, 0, 0));
            Refused.beyond(Stage.FULL, Refused.ARGUMENT, 0, 2047,
                    (g, v) -> g.addCorner(0, 0, 0, 0, 0, v));
        });
        edges.of(2, Edges.CHANGES_NOTHING, "only v is wrong", () -> Refused.by(Stage.SOME,
                Refused.ARGUMENT, "addCorner", g -> g.addCorner(7, 8, 9, 10, 11, 2048)));
    }

    private static void moveCorner(Edges edges) {
        edges.of(3, "Returns how many panes have it.", "none, and all 30", () -> {
            GlassRaster g = new GlassRaster();
            g.addCorner(0, 0, 0, 0, 0, 0);
            Check.is("without panes", g.moveCorner(0, 1, 1, 1), 0);
            Scenes.fillCorners(g);
            for (int i = 0; i < 30; i++) {
                g.addPane(i % 3 == 0 ? 5 : 6, i % 3 == 1 ? 5 : 7, i % 3 == 2 ? 5 : 8, -1, false,
                        false);
                g.show(i, i % 2 == 0);
            }
            Check.is("of all panes, shown or not", g.moveCorner(5, 1, 1, 1), 30);
            Check.is("as the first one", g.moveCorner(6, 1, 1, 1), 20);
            Check.is("of none", g.moveCorner(39, 1, 1, 1), 0);
        });
        edges.of(3, NO_CORNER, "", () -> Refused.noSuchCorner((g, corner) ->
                g.moveCorner(corner, 1, 2, 3)));
        edges.of(3, PLACE_WRONG, "x", () -> Refused.outside(Stage.SOME, Refused.ARGUMENT,
                -2000, 2000, (g, x) -> g.moveCorner(0, x, 0, 0)));
        edges.of(3, PLACE_WRONG, "y", () -> Refused.outside(Stage.SOME, Refused.ARGUMENT,
                -2000, 2000, (g, y) -> g.moveCorner(0, 0, y, 0)));
        edges.of(3, PLACE_WRONG, "z", () -> Refused.outside(Stage.SOME, Refused.ARGUMENT,
                -2000, 2000, (g, z) -> g.moveCorner(0, 0, 0, z)));
        edges.of(3, "its x from now on", "the least and the most are kept", () -> {
            GlassRaster g = new GlassRaster();
            g.addCorner(0, 0, 0, 0, 0, 0);
            g.moveCorner(0, -2000, 2000, -2000);
            Check.is("x", g.seen(0, 0), -2000);
            Check.is("y", g.seen(0, 1), 2000);
            Check.is("z", g.seen(0, 2), -2000 + 500);
        });
        edges.of(3, Edges.FIRST_NAMED, "no such corner, and a wrong place", () -> {
            Refused.by(Stage.SOME, Refused.INDEX, "x", g -> g.moveCorner(6, 2001, 0, 0));
            Refused.by(Stage.SOME, Refused.INDEX, "y", g -> g.moveCorner(-1, 0, -2001, 0));
            Refused.by(Stage.EMPTY, Refused.INDEX, "z", g -> g.moveCorner(0, 0, 0, 2001));
        });
        edges.of(3, Edges.CHANGES_NOTHING, "only z is wrong", () -> Refused.by(Stage.SOME,
                Refused.ARGUMENT, "moveCorner", g -> g.moveCorner(0, 7, 8, 2001)));
    }

    private static void setColour(Edges edges) {
        edges.of(4, THE_ONE_BEFORE, "the least and the most", () -> {
            GlassRaster g = new GlassRaster();
            g.addCorner(0, 0, 0, 7, 0, 0);
            Check.is("the one it was made with", g.setColour(0, 16777215), 7);
            Check.is("the most", g.setColour(0, 0), 16777215);
            Check.is("the least", g.setColour(0, 0), 0);
        });
        edges.of(4, NO_CORNER, "", () -> Refused.noSuchCorner((g, corner) ->
                g.setColour(corner, 5)));
        edges.of(4, COLOUR_WRONG, "", () -> Refused.outside(Stage.SOME, Refused.ARGUMENT,
                0, 16777215, (g, colour) -> g.setColour(0, colour)));
        edges.of(4, Edges.FIRST_NAMED, "no such corner, and a wrong colour", () -> {
            Refused.by(Stage.SOME, Refused.INDEX, "6", g -> g.setColour(6, 16777216));
            Refused.by(Stage.EMPTY, Refused.INDEX, "0", g -> g.setColour(0, -1));
        });
        edges.of(4, Edges.CHANGES_NOTHING, "the colour stays", () -> {
            GlassRaster g = Stage.SOME.make();
            int before = g.setColour(5, 99);
            Check.holds("another one", before != 99);
            Check.holds("refused", isRefused(() -> g.setColour(5, 16777216)));
            Check.is("it stays", g.setColour(5, 0), 99);
        });
    }

    private static void addPane(Edges edges) {
        edges.of(5, "There are at most 30 panes, numbered from 0.", "30 are taken", () -> {
            GlassRaster g = Scenes.flat();
            Scenes.triangle(g, 6, 6, 9);
            for (int i = 0; i < 30; i++) {
                Check.is("addPane", g.addPane(0, 1, 2, -1, false, false), i);
            }
            Check.is("the first one", g.pointsOf(0), 10);
            Check.is("the last one", g.pointsOf(29), 10);
        });
        edges.of(5, "Returns the number of the new pane.", "the first one, and after a refusal",
                () -> {
            GlassRaster g = Scenes.flat();
            Scenes.triangle(g, 6, 6, 9);
            Check.is("the first", g.addPane(0, 1, 2, -1, false, false), 0);
            Check.holds("refused", isRefused(() -> g.addPane(0, 1, 2, 4, false, false)));
            Check.is("the next", g.addPane(0, 1, 2, -1, false, false), 1);
        });
        edges.of(5, PANES_PARTS, "its corners in order", () -> {
            GlassRaster g = Scenes.flat();
            for (int i = 0; i < 40; i++) {
                g.addCorner(i, 0, 0, 0, 0, 0);
            }
            g.addPane(39, 0, 20, -1, false, false);
            Check.is("the first one", g.cornerOf(0, 0, 0), 39);
            Check.is("the second one", g.cornerOf(0, 1, 0), 0);
            Check.is("the third one", g.cornerOf(0, 2, 0), 20);
        });
        edges.of(5, PANES_PARTS, "none and each pattern", () -> {
            GlassRaster g = Scenes.flat();
            Scenes.triangle(g, 6, 6, Scenes.WHITE);
            for (int pattern = 0; pattern < 4; pattern++) {
                g.setPattern(pattern, 0, 0, 100 + pattern);
            }
            for (int pattern = -1; pattern < 4; pattern++) {
                int pane = g.addPane(0, 1, 2, pattern, false, false);
                Check.is("pattern " + pattern, g.colourOf(pane, 6, 6),
                        pattern == -1 ? Scenes.WHITE : 100 + pattern);
            }
        });
        edges.of(5, PANES_PARTS, "clear or not, two-sided or not", () -> {
            for (int i = 0; i < 4; i++) {
                GlassRaster g = Scenes.flat();
                Scenes.triangle(g, 6, 6, Scenes.WHITE);
                g.addPane(0, 2, 1, -1, i % 2 == 1, i / 2 == 1);
                Check.is("pieces from behind", g.piecesOf(0), i / 2);
                Check.is("glass", g.glassAt(6, 6), i == 3 ? 1 : 0);
            }
        });
        edges.of(5, PANES_PARTS, "shown at first", () -> {
            GlassRaster g = Scenes.flat();
            Scenes.triangle(g, 6, 6, 9);
            Scenes.pane(g, 0, false);
            Check.is("drawn", g.colourNow(6, 6), 9);
        });
    }

    private static void addPaneRefused(Edges edges) {
        edges.of(5, NO_CORNER, "first", () -> noSuchCornerOfPane((g, corner) ->
                g.addPane(corner, 1, 2, -1, false, false)));
        edges.of(5, NO_CORNER, "second", () -> noSuchCornerOfPane((g, corner) ->
                g.addPane(1, corner, 2, -1, false, false)));
        edges.of(5, NO_CORNER, "third", () -> noSuchCornerOfPane((g, corner) ->
                g.addPane(1, 2, corner, -1, false, false)));
        edges.of(5, PANE_WRONG, "the first and the second", () -> Refused.by(Stage.SOME,
                Refused.ARGUMENT, "0, 0, 1", g -> g.addPane(0, 0, 1, -1, false, false)));
        edges.of(5, PANE_WRONG, "the second and the third", () -> Refused.by(Stage.SOME,
                Refused.ARGUMENT, "0, 5, 5", g -> g.addPane(0, 5, 5, -1, false, false)));
        edges.of(5, PANE_WRONG, "the first and the third", () -> Refused.by(Stage.SOME,
                Refused.ARGUMENT, "3, 1, 3", g -> g.addPane(3, 1, 3, -1, false, false)));
        edges.of(5, PANE_WRONG, "all three", () -> Refused.by(Stage.SOME,
                Refused.ARGUMENT, "2, 2, 2", g -> g.addPane(2, 2, 2, -1, false, false)));
        edges.of(5, PANE_WRONG, "pattern", () -> Refused.outside(Stage.SOME, Refused.ARGUMENT,
                -1, 3, (g, pattern) -> g.addPane(0, 1, 2, pattern, false, false)));
        edges.of(5, "Throws `IllegalStateException` if there are 30", "the 30th and the 31st",
                () -> {
            GlassRaster g = new GlassRaster();
            Scenes.fillCorners(g);
            for (int i = 0; i < 29; i++) {
                g.addPane(0, 1, 2, -1, false, false);
            }
            Check.is("the 30th", g.addPane(0, 1, 2, -1, false, false), 29);
            Refused.by(Stage.FULL, Refused.STATE, "the 31st",
                    full -> full.addPane(0, 1, 2, -1, false, false));
        });
        edges.of(5, Edges.FIRST_NAMED, "no such corner, and two the same or a wrong pattern",
                () -> {
            Refused.by(Stage.SOME, Refused.INDEX, "0, 0, 6",
                    g -> g.addPane(0, 0, 6, -1, false, false));
            Refused.by(Stage.SOME, Refused.INDEX, "6, 6, 0",
                    g -> g.addPane(6, 6, 0, -1, false, false));
            Refused.by(Stage.SOME, Refused.INDEX, "pattern 4",
                    g -> g.addPane(0, 1, -1, 4, false, false));
        });
        edges.of(5, Edges.FIRST_NAMED, "there are 30, and an argument is wrong", () -> {
            Refused.by(Stage.FULL, Refused.INDEX, "0, 1, 40",
                    g -> g.addPane(0, 1, 40, -1, false, false));
            Refused.by(Stage.FULL, Refused.ARGUMENT, "0, 1, 1",
                    g -> g.addPane(0, 1, 1, -1, false, false));
            Refused.by(Stage.FULL, Refused.ARGUMENT, "pattern 4",
                    g -> g.addPane(0, 1, 2, 4, false, false));
        });
        edges.of(5, Edges.CHANGES_NOTHING, "only the pattern is wrong", () -> Refused.by(
                Stage.SOME, Refused.ARGUMENT, "addPane", g -> g.addPane(0, 1, 2, 4, true, true)));
    }

    /** A full object takes no more panes, so that corner 39 is tried on one without panes. */
    private static void noSuchCornerOfPane(java.util.function.ObjIntConsumer<GlassRaster> call) {
        Refused.beyond(Stage.EMPTY, Refused.INDEX, 0, -1, call);
        Refused.beyond(Stage.FULL, Refused.INDEX, 0, 39, call);
        Refused.beyond(Stage.SOME, Refused.INDEX, 0, 5, call);
        int[] right = {0, 39};
        for (int corner : right) {
            GlassRaster g = new GlassRaster();
            Scenes.fillCorners(g);
            Check.holds("corner " + corner, !isRefused(() -> call.accept(g, corner)));
        }
    }

    private static void show(Edges edges) {
        edges.of(6, "Returns whether it was.", "shown at first, and asked twice", () -> {
            GlassRaster g = Stage.FULL.make();
            int[] panes = {0, 29};
            for (int pane : panes) {
                Check.is("at first", g.show(pane, false), true);
                Check.is("not", g.show(pane, false), false);
                Check.is("not once more", g.show(pane, true), false);
                Check.is("shown", g.show(pane, true), true);
            }
        });
        edges.of(6, NO_PANE, "", () -> {
            Refused.noSuchPane((g, pane) -> g.show(pane, false));
            Refused.noSuchPane((g, pane) -> g.show(pane, true));
        });
    }

    private static void setPattern(Edges edges) {
        edges.of(7, PATTERNS_PARTS, "four times 8 times 8, at first all 0", () -> {
            GlassRaster g = new GlassRaster();
            for (int i = 0; i < 256; i++) {
                Check.is("at first", g.setPattern(i / 64, i / 8 % 8, i % 8, i + 1), 0);
            }
            for (int i = 0; i < 256; i++) {
                Check.is("kept apart", g.setPattern(i / 64, i / 8 % 8, i % 8, 0), i + 1);
            }
        });
        edges.of(7, THE_ONE_BEFORE, "the least and the most", () -> {
            GlassRaster g = new GlassRaster();
            g.setPattern(3, 7, 7, 16777215);
            Check.is("the most", g.setPattern(3, 7, 7, 0), 16777215);
            Check.is("the least", g.setPattern(3, 7, 7, 1), 0);
        });
        edges.of(7, NO_PLACE_IN_PATTERN, "pattern", () -> Refused.outside(Stage.SOME,
                Refused.INDEX, 0, 3, (g, pattern) -> g.setPattern(pattern, 0, 0, 1)));
        edges.of(7, NO_PLACE_IN_PATTERN, "column", () -> Refused.outside(Stage.SOME,
                Refused.INDEX, 0, 7, (g, column) -> g.setPattern(1, column, 3, 1)));
        edges.of(7, NO_PLACE_IN_PATTERN, "row", () -> Refused.outside(Stage.SOME,
                Refused.INDEX, 0, 7, (g, row) -> g.setPattern(1, 3, row, 1)));
        edges.of(7, COLOUR_WRONG, "", () -> Refused.outside(Stage.SOME, Refused.ARGUMENT,
                0, 16777215, (g, colour) -> g.setPattern(1, 2, 3, colour)));
        edges.of(7, Edges.FIRST_NAMED, "no such place, and a wrong colour", () -> {
            Refused.by(Stage.SOME, Refused.INDEX, "pattern", g -> g.setPattern(4, 0, 0, -1));
            Refused.by(Stage.SOME, Refused.INDEX, "column", g -> g.setPattern(0, 8, 0, -1));
            Refused.by(Stage.SOME, Refused.INDEX, "row", g -> g.setPattern(0, 0, 8, 16777216));
        });
        edges.of(7, Edges.CHANGES_NOTHING, "a wrong colour", () -> {
            GlassRaster g = new GlassRaster();
            g.setPattern(0, 0, 0, 5);
            Check.holds("refused", isRefused(() -> g.setPattern(0, 0, 0, 16777216)));
            Check.is("it stays", g.setPattern(0, 0, 0, 0), 5);
        });
    }

    private static void setRepeats(Edges edges) {
        edges.of(8, PATTERNS_PARTS, "each repeats at first, apart from the others", () -> {
            GlassRaster g = new GlassRaster();
            for (int i = 0; i < 4; i++) {
                Check.is("pattern " + i, g.setRepeats(i, false), true);
            }
        });
        edges.of(8, "Returns whether it did.", "asked twice", () -> {
            GlassRaster g = new GlassRaster();
            int[] patterns = {0, 3};
            for (int pattern : patterns) {
                g.setRepeats(pattern, false);
                Check.is("it ended", g.setRepeats(pattern, false), false);
                Check.is("it ended still", g.setRepeats(pattern, true), false);
                Check.is("it repeated", g.setRepeats(pattern, true), true);
            }
        });
        edges.of(8, "Throws `IndexOutOfBoundsException` if pattern is not 0 to 3", "", () -> {
            Refused.outside(Stage.SOME, Refused.INDEX, 0, 3, (g, i) -> g.setRepeats(i, true));
            Refused.outside(Stage.SOME, Refused.INDEX, 0, 3, (g, i) -> g.setRepeats(i, false));
        });
    }

    private static void setCamera(Edges edges) {
        edges.of(9, "The camera has three rows, for X, Y and Z, of four numbers: a, b, c (-4096"
                + " to 4096) and t (-5000 to 5000);", "the least and the most are kept", () -> {
            for (int row = 0; row < 3; row++) {
                GlassRaster g = new GlassRaster();
                g.addCorner(2000, 0, 0, 0, 0, 0);
                g.addCorner(0, 2000, 0, 0, 0, 0);
                g.addCorner(0, 0, 2000, 0, 0, 0);
                g.setCamera(row, 4096, -4096, 4096, 5000);
                Check.is("a", g.seen(0, row), 8000 + 5000);
                Check.is("b", g.seen(1, row), -8000 + 5000);
                Check.is("c", g.seen(2, row), 8000 + 5000);
                g.setCamera(row, -4096, 4096, -4096, -5000);
                Check.is("a", g.seen(0, row), -8000 - 5000);
                Check.is("b", g.seen(1, row), 8000 - 5000);
                Check.is("c", g.seen(2, row), -8000 - 5000);
            }
        });
        edges.of(9, IN_FRONT, "none without corners, all of 40", () -> {
            GlassRaster g = new GlassRaster();
            Check.is("none", g.setCamera(2, 0, 0, 1024, 500), 0);
            Scenes.fillCorners(g);
            Check.is("all", g.setCamera(2, 0, 0, 1024, 100), 40);
            Check.is("none of 40", g.setCamera(2, 0, 0, 1024, 99), 0);
        });
        edges.of(9, IN_FRONT, "Z of near counts, one less does not, by any row", () -> {
            GlassRaster g = new GlassRaster();
            g.addCorner(0, 0, 0, 0, 0, 0);
            g.addCorner(0, 0, 1, 0, 0, 0);
            Check.is("both", g.setCamera(2, 0, 0, 1024, 100), 2);
            Check.is("by the row for X", g.setCamera(0, 0, 0, 0, 0), 2);
            Check.is("one", g.setCamera(2, 0, 0, 1024, 99), 1);
            Check.is("by the row for Y", g.setCamera(1, 0, 0, 0, 5000), 1);
            Check.is("none", g.setCamera(2, 0, 0, 1024, 98), 0);
        });
    }

    private static void setCameraRefused(Edges edges) {
        edges.of(9, "Throws `IndexOutOfBoundsException` if row is not 0 to 2", "",
                () -> Refused.outside(Stage.SOME, Refused.INDEX, 0, 2,
                        (g, row) -> g.setCamera(row, 1, 2, 3, 4)));
        for (int row = 0; row < 3; row++) {
            int of = row;
            edges.of(9, CAMERA_WRONG, "a, row " + row, () -> Refused.outside(Stage.SOME,
                    Refused.ARGUMENT, -4096, 4096, (g, a) -> g.setCamera(of, a, 0, 0, 0)));
            edges.of(9, CAMERA_WRONG, "b, row " + row, () -> Refused.outside(Stage.SOME,
                    Refused.ARGUMENT, -4096, 4096, (g, b) -> g.setCamera(of, 0, b, 0, 0)));
            edges.of(9, CAMERA_WRONG, "c, row " + row, () -> Refused.outside(Stage.SOME,
                    Refused.ARGUMENT, -4096, 4096, (g, c) -> g.setCamera(of, 0, 0, c, 0)));
            edges.of(9, CAMERA_WRONG, "t, row " + row, () -> Refused.outside(Stage.SOME,
                    Refused.ARGUMENT, -5000, 5000, (g, t) -> g.setCamera(of, 0, 0, 0, t)));
        }
        edges.of(9, Edges.FIRST_NAMED, "no such row, and a wrong number", () -> {
            Refused.by(Stage.SOME, Refused.INDEX, "a", g -> g.setCamera(3, 4097, 0, 0, 0));
            Refused.by(Stage.SOME, Refused.INDEX, "c", g -> g.setCamera(-1, 0, 0, -4097, 0));
            Refused.by(Stage.SOME, Refused.INDEX, "t", g -> g.setCamera(3, 0, 0, 0, 5001));
        });
        edges.of(9, Edges.CHANGES_NOTHING, "only t is wrong", () -> Refused.by(Stage.SOME,
                Refused.ARGUMENT, "setCamera", g -> g.setCamera(2, 9, 9, 9, 5001)));
    }

    private static void setLens(Edges edges) {
        edges.of(10, LENS, "the least and the most are kept", () -> {
            GlassRaster g = new GlassRaster();
            for (int i = 0; i < 3; i++) {
                g.addCorner(100, -100, 500, 0, 0, 0);
            }
            g.addPane(0, 1, 2, -1, false, false);
            g.setLens(1000, 1);
            Check.is("near 1000", g.screenOf(0, 0, 2), 0);
            Check.is("focus 1", g.screenOf(0, 0, 0), 320 + 1);
            g.setLens(1, 500);
            Check.is("near 1", g.screenOf(0, 0, 2), 65535 - 65);
            Check.is("focus 500", g.screenOf(0, 0, 0), 320 + 800);
        });
        edges.of(10, IN_FRONT, "of the near that is new, which counts itself", () -> {
            GlassRaster g = new GlassRaster();
            Check.is("none without corners", g.setLens(1, 1), 0);
            g.addCorner(0, 0, -499, 0, 0, 0);
            g.addCorner(0, 0, 500, 0, 0, 0);
            g.addCorner(0, 0, -500, 0, 0, 0);
            Check.is("1", g.setLens(1, 40), 2);
            Check.is("2", g.setLens(2, 40), 1);
            Check.is("1000", g.setLens(1000, 40), 1);
            g.moveCorner(1, 0, 0, 499);
            Check.is("999 is less than 1000", g.setLens(1000, 40), 0);
        });
        edges.of(10, LENS_WRONG, "near", () -> Refused.outside(Stage.SOME, Refused.ARGUMENT,
                1, 1000, (g, near) -> g.setLens(near, 7)));
        edges.of(10, LENS_WRONG, "focus", () -> Refused.outside(Stage.SOME, Refused.ARGUMENT,
                1, 500, (g, focus) -> g.setLens(7, focus)));
        edges.of(10, Edges.CHANGES_NOTHING, "only focus is wrong", () -> Refused.by(Stage.SOME,
                Refused.ARGUMENT, "setLens", g -> g.setLens(7, 501)));
    }

    private static void setBackground(Edges edges) {
        edges.of(11, THE_ONE_BEFORE, "at first 0, the most and the least", () -> {
            GlassRaster g = new GlassRaster();
            Check.is("at first", g.setBackground(16777215), 0);
            Check.is("the most", g.setBackground(0), 16777215);
            Check.is("the least", g.setBackground(1), 0);
        });
        edges.of(11, COLOUR_WRONG, "", () -> Refused.outside(Stage.SOME, Refused.ARGUMENT,
                0, 16777215, (g, colour) -> g.setBackground(colour)));
        edges.of(11, Edges.CHANGES_NOTHING, "the background stays", () -> {
            GlassRaster g = new GlassRaster();
            g.setBackground(5);
            Check.holds("refused", isRefused(() -> g.setBackground(-1)));
            Check.is("it stays", g.setBackground(0), 5);
        });
    }

    private static void counts(Edges edges) {
        edges.of(12, "Returns how many corners there are.", "none, 40, and after refusals", () -> {
            GlassRaster g = new GlassRaster();
            Check.is("none", g.corners(), 0);
            Check.holds("refused", isRefused(() -> g.addCorner(0, 0, 0, 0, 0, 2048)));
            Check.is("still none", g.corners(), 0);
            Scenes.fillCorners(g);
            Check.holds("the 41st", isRefused(() -> g.addCorner(0, 0, 0, 0, 0, 0)));
            Check.is("40", g.corners(), 40);
        });
        edges.of(13, "Returns how many panes there are.", "none, 30, and after refusals", () -> {
            GlassRaster g = new GlassRaster();
            Scenes.fillCorners(g);
            Check.is("none", g.panes(), 0);
            Check.holds("refused", isRefused(() -> g.addPane(0, 1, 1, -1, false, false)));
            Check.is("still none", g.panes(), 0);
            Scenes.fillPanes(g);
            Check.holds("the 31st", isRefused(() -> g.addPane(0, 1, 2, -1, false, false)));
            Check.is("30", g.panes(), 30);
            g.show(29, false);
            Check.is("shown or not", g.panes(), 30);
        });
    }
}
