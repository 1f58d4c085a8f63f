/**
 * Scenes whose places on the screen can be reckoned by hand. With Z 640 and the focus 40 a
 * corner lies at sx = 320 + x, sy = 192 + y, with the depth 55296 and the weight 103.
 */
final class Scenes {
    static final int FLAT_DEPTH = 55296;
    static final int FARTHEST = 65535;
    static final int WHITE = 0xFFFFFF;
    static final int PLAIN = -1;

    private Scenes() {
    }

    static GlassRaster flat() {
        GlassRaster raster = new GlassRaster();
        raster.setCamera(2, 0, 0, 1024, 640);
        return raster;
    }

    /** A corner in the middle of the point px in the line py, for Z 640. */
    static int corner(GlassRaster raster, int px, int py, int colour) {
        return raster.addCorner(16 * px + 8 - 320, 16 * py + 8 - 192, 0, colour, 0, 0);
    }

    /** The same on the screen, at Z 1280: the depth is 60416 and the weight 52. */
    static int farCorner(GlassRaster raster, int px, int py, int colour) {
        return raster.addCorner(2 * (16 * px + 8 - 320), 2 * (16 * py + 8 - 192), 640, colour,
                0, 0);
    }

    /**
     * Three corners in the middles of (px, py), (px + 4, py) and (px, py + 4); a pane of these
     * in order is seen from the front and has the ten points of {@link #inTriangle}.
     */
    static int triangle(GlassRaster raster, int px, int py, int colour) {
        int first = corner(raster, px, py, colour);
        corner(raster, px + 4, py, colour);
        corner(raster, px, py + 4, colour);
        return first;
    }

    /** Three corners about the middle of one point; a pane of these has just this point. */
    static int dot(GlassRaster raster, int px, int py, int colour) {
        int x = 16 * px + 8 - 320;
        int y = 16 * py + 8 - 192;
        int first = raster.addCorner(x - 4, y - 4, 0, colour, 0, 0);
        raster.addCorner(x + 8, y - 4, 0, colour, 0, 0);
        raster.addCorner(x - 4, y + 8, 0, colour, 0, 0);
        return first;
    }

    static int farTriangle(GlassRaster raster, int px, int py, int colour) {
        int first = farCorner(raster, px, py, colour);
        farCorner(raster, px + 4, py, colour);
        farCorner(raster, px, py + 4, colour);
        return first;
    }

    /** The upper and the left edge count, the slanted one does not. */
    static boolean inTriangle(int px, int py, int x, int y) {
        return x >= px && y >= py && (x - px) + (y - py) < 4;
    }

    static int pane(GlassRaster raster, int first, boolean isClear) {
        return raster.addPane(first, first + 1, first + 2, PLAIN, isClear, false);
    }

    static void fillCorners(GlassRaster raster) {
        while (raster.corners() < 40) {
            raster.addCorner(0, 0, 0, 0, 0, 0);
        }
    }

    static void fillPanes(GlassRaster raster) {
        while (raster.panes() < 30) {
            raster.addPane(0, 1, 2, PLAIN, false, false);
        }
    }
}
