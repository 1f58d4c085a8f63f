/**
 * Scenes whose places on the screen can be reckoned by hand. With Z 640 and the focus 40 a
 * corner lies at sx = 320 + x, sy = 192 + y, with the depth 55296 and the weight 103.
 */
final class Scenes {
    static final int FLAT_DEPTH = 55296;
    static final int FARTHEST = 65535;
    static final int WHITE = 0xFFFFFF;
    static final int PLAIN = -1;

    private Scenes() {
    }

    static GlassRaster flat() {
        GlassRaster raster = new GlassRaster();
        raster.setCamera(2, 0, 0, 1024, 640);
        return raster;
    }

    /** A corner in the middle of the point px in the line py, for Z 640. */
    static int corner(GlassRaster raster, int px, int py, int colour) {
        return raster.addCorner(16 * px + 8 - 320, 16 * py + 8 - 192, 0, colour, 0, 0);
    }

    /** The same on the screen, at Z 1280: the depth is 60416 and the weight 52. */
    static int farCorner(GlassRaster raster, int px, int py, int colour) {
        return raster.addCorner(2 * (16 * px + 8 - 320), 2 * (16 * py + 8 - 192), 640, colour,
                0, 0);
    }

    /**
     * Three corners in the middles of (px, py), (px + 4, py) and (px, py + 4); a pane of these
     * in order is seen from the front and has the ten points of {@link #inTriangle}.
     */
    static int triangle(GlassRaster raster, int px, int py, int colour) {
        int first = corner(raster, px, py, colour);
        corner(raster, px + 4, py, colour);
        corner(raster, px, py + 4, colour);
        return first;
    }

    /** Three corners about the middle of one point; a pane of these has just this point. */
    static int dot(GlassRaster raster, int px, int py, int colour) {
        int x = 16 * px + 8 - 320;
        int y = 16 * py + 8 - 192;
        int first = raster.addCorner(x - 4, y - 4, 0, colour, 0, 0);
        raster.addCorner(x + 8, y - 4, 0, colour, 0, 0);
        raster.addCorner(x - 4, y + 8, 0, colour, 0, 0);
        return first;
    }

    static int farTriangle(GlassRaster raster, int px, int py, int colour) {
        int first = farCorner(raster, px, py, colour);
        farCorner(raster, px + 4, py, colour);
        farCorner(raster, px, py + 4, colour);
        return first;
    }

    /** The upper and the left edge count, the slanted one does not. */
    static boolean inTriangle(int px, int py, int x, int y) {
        return x >= px && y >= py && (x - px) + (y - py) < 4;
    }

    static int pane(GlassRaster raster, int first, boolean isClear) {
        return raster.addPane(first, first + 1, first + 2, PLAIN, isClear, false);
    }

    static void fillCorners(GlassRaster raster) {
        while (raster.corners() < 40) {
            raster.addCorner(0, 0, 0, 0, 0, 0);
        }
    }

    static void fillPanes(GlassRaster raster) {
        while (raster.panes() < 30) {
            raster.addPane(0, 1, 2, PLAIN, false, false);
        }
    }

    /** Corners of a pane over the whole screen: each of its 960 points lies in it. */
    static int whole(GlassRaster raster, int colour) {
        int first = raster.addCorner(-2000, -2000, 0, colour, 0, 0);
        raster.addCorner(2000, -2000, 0, colour, 0, 0);
        raster.addCorner(0, 2000, 0, colour, 0, 0);
        return first;
    }

    /**
     * A pane that is cut into a square of 4 times 4 points from (px, py) on, in two pieces: its
     * third corner has Z 0, so that with near 320 the cut corners lie half way to it, where
     * sx = 320 + 2 * X, that is 320 plus X of the one and X of the other.
     */
    static GlassRaster square(int px, int py, boolean isClear) {
        GlassRaster raster = flat();
        raster.setLens(320, 40);
        corner(raster, px, py, WHITE);
        corner(raster, px + 4, py, WHITE);
        raster.addCorner(0, 64, -640, WHITE, 0, 0);
        raster.addPane(0, 1, 2, PLAIN, isClear, false);
        return raster;
    }

    /**
     * A pane whose polygon is (248, 240), (296, 216), (352, 208) and again (296, 216) on the
     * screen, with the depths 0, 32768, 21845, 0 and the colours 0x0055AA, 0x00FF00, 0xFF0000,
     * 0x7F007F: both pieces, the second one seen from behind, have the same three points, (18, 13)
     * at the corner that the second one is nearer at, (19, 13) and (16, 14).
     */
    static GlassRaster folded(boolean isClear, boolean isTwoSided) {
        GlassRaster raster = new GlassRaster();
        raster.setCamera(2, 0, 0, 1024, 0);
        raster.setLens(2, 3);
        raster.addCorner(-3, 2, 1, 0x0000FF, 0, 0);
        raster.addCorner(-2, 2, 4, 0x00FF00, 0, 0);
        raster.addCorner(2, 1, 3, 0xFF0000, 0, 0);
        raster.addPane(0, 1, 2, PLAIN, isClear, isTwoSided);
        return raster;
    }

    /**
     * A pane that has its first piece nearer where both lie: the polygon is (352, 288),
     * (344, 264), (344, 48) and (328, 152) on the screen with the depths 21845, 0, 0 and 43690.
     * The points (21, 3) to (21, 14) are in both pieces, (21, 15) and (21, 16) in the first one
     * alone, (20, 9) in the second one alone.
     */
    static GlassRaster foldedBehind(boolean isClear) {
        GlassRaster raster = new GlassRaster();
        raster.setCamera(2, 0, 0, 1024, 0);
        raster.setLens(2, 3);
        raster.addCorner(2, 6, 3, 0x0000FF, 0, 0);
        raster.addCorner(1, -6, -2, 0x00FF00, 0, 0);
        raster.addCorner(1, -5, 6, 0xFF0000, 0, 0);
        raster.addPane(0, 1, 2, PLAIN, isClear, true);
        return raster;
    }

    /** A pane of three corners at the same X, Y and Z. */
    static GlassRaster spot(int near, int focus, int x, int y, int z) {
        GlassRaster raster = new GlassRaster();
        raster.setLens(near, focus);
        raster.setCamera(0, 0, 0, 0, x);
        raster.setCamera(1, 0, 0, 0, y);
        raster.setCamera(2, 0, 0, 0, z);
        for (int i = 0; i < 3; i++) {
            raster.addCorner(0, 0, 0, 0, 0, 0);
        }
        raster.addPane(0, 1, 2, PLAIN, false, false);
        return raster;
    }

    /**
     * Corners at (30000, 30000), (-30000, 30000) and (30000, -30000) on the screen, with the depth
     * 61440 and the weight 4097: the area is 3600000000, which 32 bits can't hold.
     */
    static GlassRaster huge(int colour, int u, int v) {
        GlassRaster raster = new GlassRaster();
        raster.setLens(1, 16);
        raster.setCamera(1, 0, 2048, 0, 1);
        raster.setCamera(2, 0, 0, 0, 16);
        raster.addCorner(1855, 931, 0, colour, u, v);
        raster.addCorner(-1895, 931, 0, colour, u, v);
        raster.addCorner(1855, -944, 0, colour, u, v);
        return raster;
    }
}
