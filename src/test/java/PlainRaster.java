import java.util.ArrayList;
import java.util.HashSet;
import java.util.List;
import java.util.Set;

/**
 * The document once more, as plainly as it can be written: no rows are kept, every point is
 * reckoned on its own from every pane, and every product is looked at for an overflow.
 */
final class PlainRaster {
    record Corner(int x, int y, int z, int colour, int u, int v) {
    }

    record Pane(int first, int second, int third, int pattern, boolean isClear,
            boolean isTwoSided) {
    }

    record Vertex(long x, long y, long z, long u, long v, long r, long g, long b) {
    }

    record OnScreen(Vertex from, long sx, long sy, long depth, long q) {
    }

    record Piece(OnScreen a, OnScreen b, OnScreen c, long area) {
    }

    record Point(int colour, int depth, int pane) {
    }

    private final List<Corner> corners = new ArrayList<>();
    private final List<Pane> panes = new ArrayList<>();
    private final Set<Integer> hidden = new HashSet<>();
    private final int[][][] patterns = new int[4][8][8];
    private final boolean[] ends = new boolean[4];
    private final int[][] rows = {{1024, 0, 0, 0}, {0, 1024, 0, 0}, {0, 0, 1024, 500}};
    private final Point[][] picture = new Point[24][40];
    private int near = 100;
    private int focus = 40;
    private int background;

    PlainRaster() {
        clearPicture();
    }

    private static void index(boolean isFine) {
        if (!isFine) {
            throw new IndexOutOfBoundsException();
        }
    }

    private static void argument(boolean isFine) {
        if (!isFine) {
            throw new IllegalArgumentException();
        }
    }

    private static boolean in(long number, long least, long most) {
        return least <= number && number <= most;
    }

    private static void place(int x, int y, int z) {
        argument(in(x, -2000, 2000) && in(y, -2000, 2000) && in(z, -2000, 2000));
    }

    private static void colour(int colour) {
        argument(in(colour, 0, 16777215));
    }

    private static void point(int x, int y) {
        index(in(x, 0, 39) && in(y, 0, 23));
    }

    private void pane(int pane) {
        index(in(pane, 0, panes.size() - 1));
    }

    private void corner(int corner) {
        index(in(corner, 0, corners.size() - 1));
    }

    private static long times(long a, long b) {
        return Math.multiplyExact(a, b);
    }

    private static long plus(long a, long b) {
        return Math.addExact(a, b);
    }

    int addCorner(int x, int y, int z, int colour, int u, int v) {
        place(x, y, z);
        colour(colour);
        argument(in(u, 0, 2047) && in(v, 0, 2047));
        if (corners.size() == 40) {
            throw new IllegalStateException();
        }
        corners.add(new Corner(x, y, z, colour, u, v));
        return corners.size() - 1;
    }

    int moveCorner(int corner, int x, int y, int z) {
        corner(corner);
        place(x, y, z);
        Corner c = corners.get(corner);
        corners.set(corner, new Corner(x, y, z, c.colour, c.u, c.v));
        int count = 0;
        for (Pane p : panes) {
            count += p.first == corner || p.second == corner || p.third == corner ? 1 : 0;
        }
        return count;
    }

    int setColour(int corner, int colour) {
        corner(corner);
        colour(colour);
        Corner c = corners.get(corner);
        corners.set(corner, new Corner(c.x, c.y, c.z, colour, c.u, c.v));
        return c.colour;
    }

    int addPane(int first, int second, int third, int pattern, boolean isClear,
            boolean isTwoSided) {
        corner(first);
        corner(second);
        corner(third);
        argument(first != second && first != third && second != third);
        argument(in(pattern, -1, 3));
        if (panes.size() == 30) {
            throw new IllegalStateException();
        }
        panes.add(new Pane(first, second, third, pattern, isClear, isTwoSided));
        return panes.size() - 1;
    }

    boolean show(int pane, boolean isShown) {
        pane(pane);
        boolean before = !hidden.contains(pane);
        if (isShown) {
            hidden.remove(pane);
        } else {
            hidden.add(pane);
        }
        return before;
    }

    int setPattern(int pattern, int column, int row, int colour) {
        index(in(pattern, 0, 3) && in(column, 0, 7) && in(row, 0, 7));
        colour(colour);
        int before = patterns[pattern][row][column];
        patterns[pattern][row][column] = colour;
        return before;
    }

    boolean setRepeats(int pattern, boolean repeats) {
        index(in(pattern, 0, 3));
        boolean before = !ends[pattern];
        ends[pattern] = !repeats;
        return before;
    }

    int setCamera(int row, int a, int b, int c, int t) {
        index(in(row, 0, 2));
        argument(in(a, -4096, 4096) && in(b, -4096, 4096) && in(c, -4096, 4096));
        argument(in(t, -5000, 5000));
        rows[row] = new int[] {a, b, c, t};
        return inFront();
    }

    int setLens(int newNear, int newFocus) {
        argument(in(newNear, 1, 1000) && in(newFocus, 1, 500));
        near = newNear;
        focus = newFocus;
        return inFront();
    }

    private int inFront() {
        int count = 0;
        for (Corner c : corners) {
            count += along(2, c) >= near ? 1 : 0;
        }
        return count;
    }

    int setBackground(int colour) {
        colour(colour);
        int before = background;
        background = colour;
        return before;
    }

    int corners() {
        return corners.size();
    }

    int panes() {
        return panes.size();
    }

    private long along(int row, Corner c) {
        int[] m = rows[row];
        long turned = plus(plus(times(m[0], c.x), times(m[1], c.y)), times(m[2], c.z));
        return Math.floorDiv(turned, 1024L) + m[3];
    }

    int seen(int corner, int row) {
        corner(corner);
        index(in(row, 0, 2));
        return (int) along(row, corners.get(corner));
    }

    private Vertex vertex(int number) {
        Corner c = corners.get(number);
        return new Vertex(along(0, c), along(1, c), along(2, c), c.u, c.v, c.colour / 65536,
                c.colour / 256 % 256, c.colour % 256);
    }

    private Vertex cut(Vertex p, Vertex q) {
        long part = p.z - near;
        long whole = p.z - q.z;
        return new Vertex(mid(p.x, q.x, part, whole), mid(p.y, q.y, part, whole), near,
                mid(p.u, q.u, part, whole), mid(p.v, q.v, part, whole),
                mid(p.r, q.r, part, whole), mid(p.g, q.g, part, whole),
                mid(p.b, q.b, part, whole));
    }

    private static long mid(long p, long q, long part, long whole) {
        return p + Math.floorDiv(times(q - p, part), whole);
    }

    List<OnScreen> polygon(int pane) {
        Pane p = panes.get(pane);
        Vertex[] whole = {vertex(p.first), vertex(p.second), vertex(p.third)};
        List<OnScreen> polygon = new ArrayList<>();
        for (int i = 0; i < 3; i++) {
            Vertex one = whole[i];
            Vertex next = whole[(i + 1) % 3];
            if (one.z >= near) {
                polygon.add(onScreen(one));
            }
            if (one.z >= near && next.z < near) {
                polygon.add(onScreen(cut(one, next)));
            }
            if (one.z < near && next.z >= near) {
                polygon.add(onScreen(cut(next, one)));
            }
        }
        return polygon;
    }

    private OnScreen onScreen(Vertex v) {
        return new OnScreen(v, 320 + Math.floorDiv(times(16L * focus, v.x), v.z),
                192 + Math.floorDiv(times(16L * focus, v.y), v.z),
                65535 - Math.floorDiv(65535L * near, v.z), Math.floorDiv(65536L, v.z) + 1);
    }

    List<Piece> pieces(int pane) {
        List<OnScreen> polygon = polygon(pane);
        List<Piece> pieces = new ArrayList<>();
        for (int k = 2; k < polygon.size(); k++) {
            OnScreen a = polygon.get(0);
            OnScreen b = polygon.get(k - 1);
            OnScreen c = polygon.get(k);
            if (isFar(a) || isFar(b) || isFar(c)) {
                continue;
            }
            long area = turn(a, b, c.sx, c.sy);
            if (area > 0) {
                pieces.add(new Piece(a, b, c, area));
            } else if (area < 0 && panes.get(pane).isTwoSided) {
                pieces.add(new Piece(a, c, b, -area));
            }
        }
        return pieces;
    }

    private static boolean isFar(OnScreen s) {
        return s.sx < -30000 || s.sx > 30000 || s.sy < -30000 || s.sy > 30000;
    }

    private static long turn(OnScreen p, OnScreen q, long x, long y) {
        return times(q.sx - p.sx, y - p.sy) - times(q.sy - p.sy, x - p.sx);
    }

    /** The weights of the corners at a point; null if it does not lie in the piece. */
    static long[] weights(Piece piece, int x, int y) {
        OnScreen[] corner = {piece.a, piece.b, piece.c};
        long[] weights = new long[3];
        for (int i = 0; i < 3; i++) {
            OnScreen from = corner[(i + 1) % 3];
            OnScreen to = corner[(i + 2) % 3];
            weights[i] = turn(from, to, 16L * x + 8, 16L * y + 8);
            boolean goesUp = to.sy < from.sy;
            boolean goesRight = to.sy == from.sy && to.sx > from.sx;
            if (weights[i] < 0 || weights[i] == 0 && !goesUp && !goesRight) {
                return null;
            }
        }
        return weights;
    }

    private static long mean(Piece piece, long[] w, long a, long b, long c) {
        return Math.floorDiv(plus(plus(times(w[0], a), times(w[1], b)), times(w[2], c)),
                piece.area);
    }

    static int depth(Piece p, long[] w) {
        return (int) mean(p, w, p.a.depth, p.b.depth, p.c.depth);
    }

    int colour(Pane pane, Piece p, long[] w) {
        long r = mean(p, w, p.a.from.r, p.b.from.r, p.c.from.r);
        long g = mean(p, w, p.a.from.g, p.b.from.g, p.c.from.g);
        long b = mean(p, w, p.a.from.b, p.b.from.b, p.c.from.b);
        if (pane.pattern >= 0) {
            long[] q = {times(w[0], p.a.q), times(w[1], p.b.q), times(w[2], p.c.q)};
            int column = step(pane, weighted(q, p.a.from.u, p.b.from.u, p.c.from.u));
            int row = step(pane, weighted(q, p.a.from.v, p.b.from.v, p.c.from.v));
            int tint = patterns[pane.pattern][row][column];
            r = tint / 65536 * r / 255;
            g = tint / 256 % 256 * g / 255;
            b = tint % 256 * b / 255;
        }
        return (int) (r * 65536 + g * 256 + b);
    }

    private static long weighted(long[] q, long a, long b, long c) {
        return Math.floorDiv(plus(plus(times(q[0], a), times(q[1], b)), times(q[2], c)),
                plus(plus(q[0], q[1]), q[2]));
    }

    private int step(Pane pane, long along) {
        int step = (int) (along / 128);
        if (step <= 7) {
            return step;
        }
        return ends[pane.pattern] ? 7 : step % 8;
    }

    int polygonOf(int pane) {
        pane(pane);
        return polygon(pane).size();
    }

    int cornerOf(int pane, int k, int what) {
        pane(pane);
        List<OnScreen> polygon = polygon(pane);
        index(in(k, 0, polygon.size() - 1) && in(what, 0, 5));
        Vertex v = polygon.get(k).from;
        long[] all = {v.x, v.y, v.z, v.u, v.v, v.r * 65536 + v.g * 256 + v.b};
        return (int) all[what];
    }

    int screenOf(int pane, int k, int what) {
        pane(pane);
        List<OnScreen> polygon = polygon(pane);
        index(in(k, 0, polygon.size() - 1) && in(what, 0, 3));
        OnScreen s = polygon.get(k);
        long[] all = {limited(s.sx), limited(s.sy), s.depth, s.q};
        return (int) all[what];
    }

    private static long limited(long place) {
        return place < -30000 ? -30001 : place > 30000 ? 30001 : place;
    }

    int piecesOf(int pane) {
        pane(pane);
        return pieces(pane).size();
    }

    int pointsOf(int pane) {
        pane(pane);
        List<Piece> pieces = pieces(pane);
        int count = 0;
        for (int i = 0; i < 960; i++) {
            count += first(pieces, i % 40, i / 40) == null ? 0 : 1;
        }
        return count;
    }

    private static Piece first(List<Piece> pieces, int x, int y) {
        for (Piece piece : pieces) {
            if (weights(piece, x, y) != null) {
                return piece;
            }
        }
        return null;
    }

    boolean liesIn(int pane, int x, int y) {
        pane(pane);
        point(x, y);
        return first(pieces(pane), x, y) != null;
    }

    int depthOf(int pane, int x, int y) {
        pane(pane);
        point(x, y);
        Piece piece = first(pieces(pane), x, y);
        return piece == null ? -1 : depth(piece, weights(piece, x, y));
    }

    int colourOf(int pane, int x, int y) {
        pane(pane);
        point(x, y);
        Piece piece = first(pieces(pane), x, y);
        return piece == null ? -1 : colour(panes.get(pane), piece, weights(piece, x, y));
    }

    private List<List<Piece>> allPieces() {
        List<List<Piece>> all = new ArrayList<>();
        for (int i = 0; i < panes.size(); i++) {
            all.add(hidden.contains(i) ? List.of() : pieces(i));
        }
        return all;
    }

    private Point drawn(List<List<Piece>> all, int x, int y, int without, Set<Integer> painting) {
        Point point = new Point(background, 65535, -1);
        for (int i = 0; i < all.size(); i++) {
            for (Piece piece : i == without ? List.<Piece>of() : all.get(i)) {
                long[] w = weights(piece, x, y);
                if (w == null || depth(piece, w) >= point.depth) {
                    continue;
                }
                painting.add(i);
                int colour = colour(panes.get(i), piece, w);
                point = panes.get(i).isClear
                        ? new Point(half(point.colour, colour), point.depth, point.pane)
                        : new Point(colour, depth(piece, w), i);
            }
        }
        return point;
    }

    private static int half(int one, int two) {
        int r = (one / 65536 + two / 65536) / 2;
        int g = (one / 256 % 256 + two / 256 % 256) / 2;
        int b = (one % 256 + two % 256) / 2;
        return r * 65536 + g * 256 + b;
    }

    private Point[][] drawnAll(int without) {
        List<List<Piece>> all = allPieces();
        Point[][] drawn = new Point[24][40];
        for (int i = 0; i < 960; i++) {
            drawn[i / 40][i % 40] = drawn(all, i % 40, i / 40, without, new HashSet<>());
        }
        return drawn;
    }

    private Set<Integer> staleTiles() {
        Point[][] drawn = drawnAll(-1);
        Set<Integer> tiles = new HashSet<>();
        for (int i = 0; i < 960; i++) {
            if (!drawn[i / 40][i % 40].equals(picture[i / 40][i % 40])) {
                tiles.add(i / 40 / 8 * 5 + i % 40 / 8);
            }
        }
        return tiles;
    }

    private void clearPicture() {
        for (Point[] line : picture) {
            java.util.Arrays.fill(line, new Point(background, 65535, -1));
        }
    }

    int clear() {
        clearPicture();
        return staleTiles().size();
    }

    int paint() {
        Set<Integer> tiles = staleTiles();
        List<List<Piece>> all = allPieces();
        for (int tile : tiles) {
            for (int i = 0; i < 64; i++) {
                int x = tile % 5 * 8 + i % 8;
                int y = tile / 5 * 8 + i / 8;
                picture[y][x] = drawn(all, x, y, -1, new HashSet<>());
            }
        }
        return tiles.size();
    }

    int stale() {
        return staleTiles().size();
    }

    boolean isStale(int tile) {
        index(in(tile, 0, 14));
        return staleTiles().contains(tile);
    }

    int colourAt(int x, int y) {
        point(x, y);
        return picture[y][x].colour;
    }

    int depthAt(int x, int y) {
        point(x, y);
        return picture[y][x].depth;
    }

    int paneAt(int x, int y) {
        point(x, y);
        return picture[y][x].pane;
    }

    int pointsWith(int pane) {
        pane(pane);
        int count = 0;
        for (int i = 0; i < 960; i++) {
            count += paneAt(i % 40, i / 40) == pane ? 1 : 0;
        }
        return count;
    }

    int colours() {
        Set<Integer> colours = new HashSet<>();
        for (int i = 0; i < 960; i++) {
            colours.add(colourAt(i % 40, i / 40));
        }
        return colours.size();
    }

    int colourNow(int x, int y) {
        point(x, y);
        return drawn(allPieces(), x, y, -1, new HashSet<>()).colour;
    }

    int seenOf(int pane) {
        pane(pane);
        Point[][] with = drawnAll(-1);
        Point[][] without = drawnAll(pane);
        int count = 0;
        for (int i = 0; i < 960; i++) {
            count += with[i / 40][i % 40].colour != without[i / 40][i % 40].colour ? 1 : 0;
        }
        return count;
    }

    int greatest() {
        int[] counts = new int[30];
        for (Point[] line : drawnAll(-1)) {
            for (Point point : line) {
                if (point.pane >= 0) {
                    counts[point.pane]++;
                }
            }
        }
        int greatest = -1;
        for (int i = 29; i >= 0; i--) {
            if (counts[i] > 0 && (greatest < 0 || counts[i] >= counts[greatest])) {
                greatest = i;
            }
        }
        return greatest;
    }

    int glassAt(int x, int y) {
        point(x, y);
        Set<Integer> painting = new HashSet<>();
        drawn(allPieces(), x, y, -1, painting);
        painting.removeIf(i -> !panes.get(i).isClear);
        return painting.size();
    }

    double brightness() {
        long sum = 0;
        for (int i = 0; i < 960; i++) {
            int colour = colourAt(i % 40, i / 40);
            sum += colour / 65536 + colour / 256 % 256 + colour % 256;
        }
        return sum / 960.0;
    }

    long digest() {
        List<Integer> values = new ArrayList<>(List.of(corners(), panes(), stale()));
        for (int i = 0; i < corners(); i++) {
            values.addAll(List.of(seen(i, 0), seen(i, 1), seen(i, 2)));
        }
        for (int i = 0; i < panes(); i++) {
            values.addAll(List.of(polygonOf(i), piecesOf(i), pointsOf(i), pointsWith(i)));
            for (int k = 0; k < polygonOf(i); k++) {
                for (int what = 0; what < 4; what++) {
                    values.add(screenOf(i, k, what));
                }
            }
        }
        values.add(colours());
        for (int i = 0; i < 960; i++) {
            int x = i % 40;
            int y = i / 40;
            values.addAll(List.of(colourAt(x, y), depthAt(x, y), paneAt(x, y)));
        }
        long d = 2459;
        for (int value : values) {
            d = d * 31 + value;
        }
        return d;
    }
}
