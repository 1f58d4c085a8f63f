import java.util.Arrays;

/**
 * A rasteriser of stained glass: panes in space, looked at through a camera and drawn
 * point by point on a screen of 40 points in each of 24 lines.
 *
 * <p>All rows are made with the object and used again: no call makes a new one.
 */
public final class GlassRaster {
    private static final int MOST_CORNERS = 40;
    private static final int MOST_PANES = 30;
    private static final int PATTERNS = 4;
    private static final int PATTERN_SIDE = 8;
    private static final int PATTERN_SHIFT = 7;
    private static final int WIDTH = 40;
    private static final int HEIGHT = 24;
    private static final int POINTS = WIDTH * HEIGHT;
    private static final int TILE_SIDE = 8;
    private static final int TILES_ACROSS = WIDTH / TILE_SIDE;
    private static final int TILES = TILES_ACROSS * (HEIGHT / TILE_SIDE);
    private static final int STEPS = 16;
    private static final int MIDDLE_X = 320;
    private static final int MIDDLE_Y = 192;
    private static final int SCREEN_LIMIT = 30000;
    private static final int FARTHEST = 65535;
    private static final int WEIGHT_UNIT = 65536;
    private static final int PLACE_LIMIT = 2000;
    private static final int MOST_UV = 2047;
    private static final int WHITE = 0xFFFFFF;
    private static final int CAMERA_ROWS = 3;
    private static final int TURN_LIMIT = 4096;
    private static final int SHIFT_LIMIT = 5000;
    private static final int NONE = -1;
    private static final int DIGEST_START = 2459;

    private final Corner[] cornerRow = new Corner[MOST_CORNERS];
    private final Pane[] paneRow = new Pane[MOST_PANES];
    private final Pattern[] patternRow = new Pattern[PATTERNS];
    private final Camera camera = new Camera();
    private final Shape shape = new Shape();
    private final Screen picture = new Screen();
    private final Screen now = new Screen();
    private final Screen without = new Screen();
    private final ColourSet colourSet = new ColourSet();
    private final int[] pointsByPane = new int[MOST_PANES];
    private final Box wholeScreen = new Box();
    private final Box smallBox = new Box();
    private int cornerCount;
    private int paneCount;
    private int background;

    public GlassRaster() {
        for (int i = 0; i < cornerRow.length; i++) {
            cornerRow[i] = new Corner();
        }
        for (int i = 0; i < paneRow.length; i++) {
            paneRow[i] = new Pane();
        }
        for (int i = 0; i < patternRow.length; i++) {
            patternRow[i] = new Pattern();
        }
    }

    // ---- what there is

    public int addCorner(int x, int y, int z, int colour, int u, int v)
            throws IllegalArgumentException, IllegalStateException {
        requirePlace(x, y, z);
        requireColour(colour);
        if (!isWithin(u, 0, MOST_UV) || !isWithin(v, 0, MOST_UV)) {
            throw new IllegalArgumentException("u or v is not 0 to 2047");
        }
        if (cornerCount >= MOST_CORNERS) {
            throw new IllegalStateException("there are 40 corners");
        }
        int number = cornerCount;
        Corner corner = cornerRow[number];
        corner.place(x, y, z);
        corner.colour = colour;
        corner.u = u;
        corner.v = v;
        cornerCount = number + 1;
        return number;
    }

    public int moveCorner(int corner, int x, int y, int z)
            throws IndexOutOfBoundsException, IllegalArgumentException {
        requireCorner(corner);
        requirePlace(x, y, z);
        cornerRow[corner].place(x, y, z);
        int having = 0;
        for (int i = 0; i < paneCount; i++) {
            if (paneRow[i].has(corner)) {
                having++;
            }
        }
        return having;
    }

    public int setColour(int corner, int colour)
            throws IndexOutOfBoundsException, IllegalArgumentException {
        requireCorner(corner);
        requireColour(colour);
        int before = cornerRow[corner].colour;
        cornerRow[corner].colour = colour;
        return before;
    }

    public int addPane(int first, int second, int third, int pattern, boolean isClear,
            boolean isTwoSided)
            throws IndexOutOfBoundsException, IllegalArgumentException, IllegalStateException {
        requireCorner(first);
        requireCorner(second);
        requireCorner(third);
        if (first == second || second == third || third == first) {
            throw new IllegalArgumentException("two corners are the same");
        }
        if (!isWithin(pattern, NONE, PATTERNS - 1)) {
            throw new IllegalArgumentException("pattern is not -1 to 3");
        }
        if (paneCount >= MOST_PANES) {
            throw new IllegalStateException("there are 30 panes");
        }
        int number = paneCount;
        Pane pane = paneRow[number];
        pane.join(first, second, third);
        pane.pattern = pattern;
        pane.isClear = isClear;
        pane.isTwoSided = isTwoSided;
        pane.isShown = true;
        paneCount = number + 1;
        return number;
    }

    public boolean show(int pane, boolean isShown) throws IndexOutOfBoundsException {
        requirePane(pane);
        boolean before = paneRow[pane].isShown;
        paneRow[pane].isShown = isShown;
        return before;
    }

    public int setPattern(int pattern, int column, int row, int colour)
            throws IndexOutOfBoundsException, IllegalArgumentException {
        requirePattern(pattern);
        if (!isWithin(column, 0, PATTERN_SIDE - 1) || !isWithin(row, 0, PATTERN_SIDE - 1)) {
            throw new IndexOutOfBoundsException("column or row is not 0 to 7");
        }
        requireColour(colour);
        int[] tints = patternRow[pattern].tints;
        int index = row * PATTERN_SIDE + column;
        int before = tints[index];
        tints[index] = colour;
        return before;
    }

    public boolean setRepeats(int pattern, boolean repeats) throws IndexOutOfBoundsException {
        requirePattern(pattern);
        boolean before = patternRow[pattern].repeats;
        patternRow[pattern].repeats = repeats;
        return before;
    }

    public int setCamera(int row, int a, int b, int c, int t)
            throws IndexOutOfBoundsException, IllegalArgumentException {
        requireCameraRow(row);
        if (!isWithin(a, -TURN_LIMIT, TURN_LIMIT) || !isWithin(b, -TURN_LIMIT, TURN_LIMIT)
                || !isWithin(c, -TURN_LIMIT, TURN_LIMIT)) {
            throw new IllegalArgumentException("a, b or c is not -4096 to 4096");
        }
        if (!isWithin(t, -SHIFT_LIMIT, SHIFT_LIMIT)) {
            throw new IllegalArgumentException("t is not -5000 to 5000");
        }
        camera.turnRow(row, a, b, c, t);
        return cornersInFront();
    }

    public int setLens(int near, int focus) throws IllegalArgumentException {
        if (!isWithin(near, 1, 1000)) {
            throw new IllegalArgumentException("near is not 1 to 1000");
        }
        if (!isWithin(focus, 1, 500)) {
            throw new IllegalArgumentException("focus is not 1 to 500");
        }
        camera.near = near;
        camera.focus = focus;
        return cornersInFront();
    }

    public int setBackground(int colour) throws IllegalArgumentException {
        requireColour(colour);
        int before = background;
        background = colour;
        return before;
    }

    public int corners() {
        return cornerCount;
    }

    public int panes() {
        return paneCount;
    }

    // ---- steps on the way

    public int seen(int corner, int row) throws IndexOutOfBoundsException {
        requireCorner(corner);
        requireCameraRow(row);
        return camera.along(row, cornerRow[corner]);
    }

    public int polygonOf(int pane) throws IndexOutOfBoundsException {
        requirePane(pane);
        formShape(pane);
        return shape.count;
    }

    public int cornerOf(int pane, int k, int what) throws IndexOutOfBoundsException {
        requirePane(pane);
        formShape(pane);
        requireSpot(k);
        if (!isWithin(what, 0, 5)) {
            throw new IndexOutOfBoundsException("what is not 0 to 5");
        }
        Spot spot = shape.spots[k];
        switch (what) {
            case 0:
                return spot.x;
            case 1:
                return spot.y;
            case 2:
                return spot.z;
            case 3:
                return spot.u;
            case 4:
                return spot.v;
            default:
                return mixed(spot.red, spot.green, spot.blue);
        }
    }

    public int screenOf(int pane, int k, int what) throws IndexOutOfBoundsException {
        requirePane(pane);
        formShape(pane);
        requireSpot(k);
        if (!isWithin(what, 0, 3)) {
            throw new IndexOutOfBoundsException("what is not 0 to 3");
        }
        Spot spot = shape.spots[k];
        switch (what) {
            case 0:
                return cutToScreenLimit(spot.screenX);
            case 1:
                return cutToScreenLimit(spot.screenY);
            case 2:
                return spot.depth;
            default:
                return spot.weight;
        }
    }

    public int piecesOf(int pane) throws IndexOutOfBoundsException {
        requirePane(pane);
        formShape(pane);
        int drawn = 0;
        for (Piece piece : shape.pieces) {
            if (piece.isDrawn) {
                drawn++;
            }
        }
        return drawn;
    }

    public int pointsOf(int pane) throws IndexOutOfBoundsException {
        requirePane(pane);
        formShape(pane);
        int points = 0;
        for (int y = 0; y < HEIGHT; y++) {
            for (int x = 0; x < WIDTH; x++) {
                if (shape.firstPieceAt(x, y) != NONE) {
                    points++;
                }
            }
        }
        return points;
    }

    public boolean liesIn(int pane, int x, int y) throws IndexOutOfBoundsException {
        requirePane(pane);
        requirePoint(x, y);
        formShape(pane);
        return shape.firstPieceAt(x, y) != NONE;
    }

    public int depthOf(int pane, int x, int y) throws IndexOutOfBoundsException {
        requirePane(pane);
        requirePoint(x, y);
        formShape(pane);
        int first = shape.firstPieceAt(x, y);
        return first == NONE ? NONE : shape.pieces[first].depthHere();
    }

    public int colourOf(int pane, int x, int y) throws IndexOutOfBoundsException {
        requirePane(pane);
        requirePoint(x, y);
        formShape(pane);
        int first = shape.firstPieceAt(x, y);
        return first == NONE ? NONE : colourHere(paneRow[pane], shape.pieces[first]);
    }

    // ---- the picture

    public int clear() {
        picture.blank(wholeScreen, background);
        draw(now, wholeScreen, NONE);
        return countStaleTiles();
    }

    public int paint() {
        draw(now, wholeScreen, NONE);
        int drawn = countStaleTiles();
        // A tile that is not stale is the same in both, so the whole screen may be taken over.
        picture.copy(now);
        return drawn;
    }

    public int stale() {
        draw(now, wholeScreen, NONE);
        return countStaleTiles();
    }

    public boolean isStale(int tile) throws IndexOutOfBoundsException {
        if (!isWithin(tile, 0, TILES - 1)) {
            throw new IndexOutOfBoundsException("tile is not 0 to 14");
        }
        spanTile(tile);
        draw(now, smallBox, NONE);
        return now.differsFrom(picture, smallBox);
    }

    public int colourAt(int x, int y) throws IndexOutOfBoundsException {
        requirePoint(x, y);
        return picture.colours[y * WIDTH + x];
    }

    public int depthAt(int x, int y) throws IndexOutOfBoundsException {
        requirePoint(x, y);
        return picture.depths[y * WIDTH + x];
    }

    public int paneAt(int x, int y) throws IndexOutOfBoundsException {
        requirePoint(x, y);
        return picture.panes[y * WIDTH + x];
    }

    public int pointsWith(int pane) throws IndexOutOfBoundsException {
        requirePane(pane);
        int points = 0;
        for (int there : picture.panes) {
            if (there == pane) {
                points++;
            }
        }
        return points;
    }

    public int colours() {
        colourSet.empty();
        for (int colour : picture.colours) {
            colourSet.include(colour);
        }
        return colourSet.size;
    }

    // ---- what would be (nothing is changed)

    public int colourNow(int x, int y) throws IndexOutOfBoundsException {
        requirePoint(x, y);
        smallBox.span(x, y, x, y);
        draw(now, smallBox, NONE);
        return now.colours[y * WIDTH + x];
    }

    public int seenOf(int pane) throws IndexOutOfBoundsException {
        requirePane(pane);
        if (!paneRow[pane].isShown) {
            return 0;
        }
        draw(now, wholeScreen, NONE);
        draw(without, wholeScreen, pane);
        int points = 0;
        for (int i = 0; i < POINTS; i++) {
            if (now.colours[i] != without.colours[i]) {
                points++;
            }
        }
        return points;
    }

    public int greatest() {
        draw(now, wholeScreen, NONE);
        Arrays.fill(pointsByPane, 0);
        for (int pane : now.panes) {
            if (isWithin(pane, 0, MOST_PANES - 1)) {
                pointsByPane[pane]++;
            }
        }
        int greatest = NONE;
        int most = 0;
        for (int i = 0; i < MOST_PANES; i++) {
            if (pointsByPane[i] > most) {
                most = pointsByPane[i];
                greatest = i;
            }
        }
        return greatest;
    }

    public int glassAt(int x, int y) throws IndexOutOfBoundsException {
        requirePoint(x, y);
        smallBox.span(x, y, x, y);
        now.blank(smallBox, background);
        int glass = 0;
        for (int i = 0; i < paneCount; i++) {
            if (paneRow[i].isShown && drawPane(now, smallBox, i) && paneRow[i].isClear) {
                glass++;
            }
        }
        return glass;
    }

    public double brightness() {
        long sum = 0;
        for (int colour : picture.colours) {
            sum += redOf(colour) + greenOf(colour) + blueOf(colour);
        }
        return (double) sum / POINTS;
    }

    public long digest() {
        long d = DIGEST_START;
        d = d * 31 + corners();
        d = d * 31 + panes();
        draw(now, wholeScreen, NONE);
        d = d * 31 + countStaleTiles();
        for (int i = 0; i < cornerCount; i++) {
            for (int row = 0; row < CAMERA_ROWS; row++) {
                d = d * 31 + seen(i, row);
            }
        }
        for (int i = 0; i < paneCount; i++) {
            d = digestPane(d, i);
        }
        d = d * 31 + colours();
        for (int y = 0; y < HEIGHT; y++) {
            for (int x = 0; x < WIDTH; x++) {
                d = d * 31 + colourAt(x, y);
                d = d * 31 + depthAt(x, y);
                d = d * 31 + paneAt(x, y);
            }
        }
        return d;
    }

    private long digestPane(long start, int pane) {
        long d = start;
        int polygon = polygonOf(pane);
        d = d * 31 + polygon;
        d = d * 31 + piecesOf(pane);
        d = d * 31 + pointsOf(pane);
        d = d * 31 + pointsWith(pane);
        for (int k = 0; k < polygon; k++) {
            for (int what = 0; what < 4; what++) {
                d = d * 31 + screenOf(pane, k, what);
            }
        }
        return d;
    }

    // ---- what a call may name

    private static boolean isWithin(int number, int least, int most) {
        return number >= least && number <= most;
    }

    private void requireCorner(int corner) {
        if (!isWithin(corner, 0, cornerCount - 1)) {
            throw new IndexOutOfBoundsException("no such corner");
        }
    }

    private void requirePane(int pane) {
        if (!isWithin(pane, 0, paneCount - 1)) {
            throw new IndexOutOfBoundsException("no such pane");
        }
    }

    /** Looks at the shape that was formed last. */
    private void requireSpot(int k) {
        if (!isWithin(k, 0, shape.count - 1)) {
            throw new IndexOutOfBoundsException("no such corner of the polygon");
        }
    }

    private static void requirePattern(int pattern) {
        if (!isWithin(pattern, 0, PATTERNS - 1)) {
            throw new IndexOutOfBoundsException("pattern is not 0 to 3");
        }
    }

    private static void requireCameraRow(int row) {
        if (!isWithin(row, 0, CAMERA_ROWS - 1)) {
            throw new IndexOutOfBoundsException("row is not 0 to 2");
        }
    }

    private static void requirePoint(int x, int y) {
        if (!isWithin(x, 0, WIDTH - 1)) {
            throw new IndexOutOfBoundsException("x is not 0 to 39");
        }
        if (!isWithin(y, 0, HEIGHT - 1)) {
            throw new IndexOutOfBoundsException("y is not 0 to 23");
        }
    }

    private static void requirePlace(int x, int y, int z) {
        if (!isWithin(x, -PLACE_LIMIT, PLACE_LIMIT) || !isWithin(y, -PLACE_LIMIT, PLACE_LIMIT)
                || !isWithin(z, -PLACE_LIMIT, PLACE_LIMIT)) {
            throw new IllegalArgumentException("x, y or z is not -2000 to 2000");
        }
    }

    private static void requireColour(int colour) {
        if (!isWithin(colour, 0, WHITE)) {
            throw new IllegalArgumentException("colour is not 0 to 16777215");
        }
    }

    // ---- numbers and colours

    /** a // b. The divisor is tested here, so that no division ever throws. */
    private static long cutDown(long a, long b) {
        return b == 0 ? 0 : Math.floorDiv(a, b);
    }

    private static int cutToScreenLimit(int place) {
        return Math.max(-SCREEN_LIMIT - 1, Math.min(SCREEN_LIMIT + 1, place));
    }

    private static int redOf(int colour) {
        return colour >> 16 & 255;
    }

    private static int greenOf(int colour) {
        return colour >> 8 & 255;
    }

    private static int blueOf(int colour) {
        return colour & 255;
    }

    private static int mixed(int red, int green, int blue) {
        return red * 65536 + green * 256 + blue;
    }

    private static int halfOfBoth(int one, int two) {
        return mixed((redOf(one) + redOf(two)) / 2, (greenOf(one) + greenOf(two)) / 2,
                (blueOf(one) + blueOf(two)) / 2);
    }

    // ---- from panes to points

    private int cornersInFront() {
        int inFront = 0;
        for (int i = 0; i < cornerCount; i++) {
            if (camera.along(2, cornerRow[i]) >= camera.near) {
                inFront++;
            }
        }
        return inFront;
    }

    /** Brings a pane into the one shape that all steps look at. */
    private void formShape(int number) {
        Pane pane = paneRow[number];
        camera.look(cornerRow[pane.first], shape.ends[0]);
        camera.look(cornerRow[pane.second], shape.ends[1]);
        camera.look(cornerRow[pane.third], shape.ends[2]);
        shape.cutAt(camera.near);
        for (int i = 0; i < shape.count; i++) {
            camera.project(shape.spots[i]);
        }
        shape.split(pane.isTwoSided);
    }

    /** The colour of the pane at the point that the piece was last asked for. */
    private int colourHere(Pane pane, Piece piece) {
        int red = piece.mean(piece.a.red, piece.b.red, piece.c.red);
        int green = piece.mean(piece.a.green, piece.b.green, piece.c.green);
        int blue = piece.mean(piece.a.blue, piece.b.blue, piece.c.blue);
        if (!isWithin(pane.pattern, 0, PATTERNS - 1)) {
            return mixed(red, green, blue);
        }
        int u = piece.weightedMean(piece.a.u, piece.b.u, piece.c.u);
        int v = piece.weightedMean(piece.a.v, piece.b.v, piece.c.v);
        int tint = patternRow[pane.pattern].tintAt(u, v);
        return mixed(redOf(tint) * red / 255, greenOf(tint) * green / 255,
                blueOf(tint) * blue / 255);
    }

    /** Looks at what has been drawn now, of the whole screen. */
    private int countStaleTiles() {
        int count = 0;
        for (int tile = 0; tile < TILES; tile++) {
            spanTile(tile);
            if (now.differsFrom(picture, smallBox)) {
                count++;
            }
        }
        return count;
    }

    private void spanTile(int tile) {
        int left = tile % TILES_ACROSS * TILE_SIDE;
        int top = tile / TILES_ACROSS * TILE_SIDE;
        smallBox.span(left, top, left + TILE_SIDE - 1, top + TILE_SIDE - 1);
    }

    /** Draws all that is shown but the pane that is left out, within the box alone. */
    private void draw(Screen screen, Box box, int leftOut) {
        screen.blank(box, background);
        for (int i = 0; i < paneCount; i++) {
            if (paneRow[i].isShown && i != leftOut) {
                drawPane(screen, box, i);
            }
        }
    }

    /** Returns whether a point of the box was painted. */
    private boolean drawPane(Screen screen, Box box, int number) {
        formShape(number);
        boolean paints = false;
        for (Piece piece : shape.pieces) {
            if (piece.isDrawn && drawPiece(screen, box, number, piece)) {
                paints = true;
            }
        }
        return paints;
    }

    private boolean drawPiece(Screen screen, Box box, int number, Piece piece) {
        int left = Math.max(box.left, piece.box.left);
        int top = Math.max(box.top, piece.box.top);
        int right = Math.min(box.right, piece.box.right);
        int bottom = Math.min(box.bottom, piece.box.bottom);
        boolean paints = false;
        for (int y = top; y <= bottom; y++) {
            for (int x = left; x <= right; x++) {
                if (piece.holds(x, y) && paintPoint(screen, y * WIDTH + x, number, piece)) {
                    paints = true;
                }
            }
        }
        return paints;
    }

    private boolean paintPoint(Screen screen, int index, int number, Piece piece) {
        int depth = piece.depthHere();
        if (depth >= screen.depths[index]) {
            return false;
        }
        Pane pane = paneRow[number];
        int colour = colourHere(pane, piece);
        if (pane.isClear) {
            screen.colours[index] = halfOfBoth(screen.colours[index], colour);
        } else {
            screen.colours[index] = colour;
            screen.depths[index] = depth;
            screen.panes[index] = number;
        }
        return true;
    }

    private static final class Corner {
        int x;
        int y;
        int z;
        int colour;
        int u;
        int v;

        void place(int newX, int newY, int newZ) {
            x = newX;
            y = newY;
            z = newZ;
        }
    }

    private static final class Pane {
        int first;
        int second;
        int third;
        int pattern;
        boolean isClear;
        boolean isTwoSided;
        boolean isShown;

        void join(int one, int two, int three) {
            first = one;
            second = two;
            third = three;
        }

        boolean has(int corner) {
            return first == corner || second == corner || third == corner;
        }
    }

    private static final class Pattern {
        final int[] tints = new int[PATTERN_SIDE * PATTERN_SIDE];
        boolean repeats = true;

        int tintAt(int u, int v) {
            return tints[placeOf(v) * PATTERN_SIDE + placeOf(u)];
        }

        /** The shift, other than a division, leaves nothing less than 0 for any number. */
        private int placeOf(int along) {
            int place = along >>> PATTERN_SHIFT;
            if (place < PATTERN_SIDE) {
                return place;
            }
            return repeats ? place % PATTERN_SIDE : PATTERN_SIDE - 1;
        }
    }

    private static final class Camera {
        /** A row behind the other: a, b, c and t of each. */
        final int[] rows = {1024, 0, 0, 0, 0, 1024, 0, 0, 0, 0, 1024, 500};
        int near = 100;
        int focus = 40;

        void turnRow(int row, int a, int b, int c, int t) {
            int start = 4 * row;
            rows[start] = a;
            rows[start + 1] = b;
            rows[start + 2] = c;
            rows[start + 3] = t;
        }

        int along(int row, Corner corner) {
            int start = 4 * row;
            int turned = rows[start] * corner.x + rows[start + 1] * corner.y
                    + rows[start + 2] * corner.z;
            return (turned >> 10) + rows[start + 3];
        }

        void look(Corner corner, Spot spot) {
            spot.x = along(0, corner);
            spot.y = along(1, corner);
            spot.z = along(2, corner);
            spot.u = corner.u;
            spot.v = corner.v;
            spot.red = redOf(corner.colour);
            spot.green = greenOf(corner.colour);
            spot.blue = blueOf(corner.colour);
        }

        void project(Spot spot) {
            long scale = (long) STEPS * focus;
            spot.screenX = MIDDLE_X + (int) cutDown(scale * spot.x, spot.z);
            spot.screenY = MIDDLE_Y + (int) cutDown(scale * spot.y, spot.z);
            spot.depth = FARTHEST - (int) cutDown((long) FARTHEST * near, spot.z);
            spot.weight = (int) cutDown(WEIGHT_UNIT, spot.z) + 1;
        }
    }

    /** A corner of a polygon, as the camera sees it and as it lies on the screen. */
    private static final class Spot {
        int x;
        int y;
        int z;
        int u;
        int v;
        int red;
        int green;
        int blue;
        int screenX;
        int screenY;
        int depth;
        int weight;

        void copy(Spot other) {
            x = other.x;
            y = other.y;
            z = other.z;
            u = other.u;
            v = other.v;
            red = other.red;
            green = other.green;
            blue = other.blue;
        }

        /** Comes to lie between p, which is in front, and q, which is not. */
        void cut(Spot p, Spot q, int near) {
            long part = p.z - near;
            long whole = p.z - q.z;
            x = between(p.x, q.x, part, whole);
            y = between(p.y, q.y, part, whole);
            z = near;
            u = between(p.u, q.u, part, whole);
            v = between(p.v, q.v, part, whole);
            red = between(p.red, q.red, part, whole);
            green = between(p.green, q.green, part, whole);
            blue = between(p.blue, q.blue, part, whole);
        }

        private static int between(int p, int q, long part, long whole) {
            return whole == 0 ? p : p + (int) Math.floorDiv((q - p) * part, whole);
        }

        boolean isFarOut() {
            return !isWithin(screenX, -SCREEN_LIMIT, SCREEN_LIMIT)
                    || !isWithin(screenY, -SCREEN_LIMIT, SCREEN_LIMIT);
        }
    }

    /** What is left of a pane in front of the camera, and its pieces. */
    private static final class Shape {
        final Spot[] ends = {new Spot(), new Spot(), new Spot()};
        final Spot[] spots = {new Spot(), new Spot(), new Spot(), new Spot()};
        final Piece[] pieces = {new Piece(), new Piece()};
        int count;

        void cutAt(int near) {
            count = 0;
            for (int i = 0; i < ends.length; i++) {
                Spot end = ends[i];
                Spot next = ends[(i + 1) % ends.length];
                boolean isIn = end.z >= near;
                boolean isNextIn = next.z >= near;
                if (isIn && count < spots.length) {
                    spots[count].copy(end);
                    count++;
                }
                if (isIn != isNextIn && count < spots.length) {
                    spots[count].cut(isIn ? end : next, isIn ? next : end, near);
                    count++;
                }
            }
        }

        void split(boolean isTwoSided) {
            for (int i = 0; i < pieces.length; i++) {
                Piece piece = pieces[i];
                piece.isDrawn = false;
                if (i + 2 < count && i + 2 < spots.length) {
                    piece.take(spots[0], spots[i + 1], spots[i + 2], isTwoSided);
                }
            }
        }

        int firstPieceAt(int x, int y) {
            for (int i = 0; i < pieces.length; i++) {
                Piece piece = pieces[i];
                if (piece.isDrawn && piece.box.spans(x, y) && piece.holds(x, y)) {
                    return i;
                }
            }
            return NONE;
        }
    }

    private static final class Piece {
        final Box box = new Box();
        Spot a = new Spot();
        Spot b = new Spot();
        Spot c = new Spot();
        long area;
        boolean isDrawn;
        /** The weights of the three corners at the point that was asked for last. */
        long wa;
        long wb;
        long wc;

        void take(Spot first, Spot second, Spot third, boolean isTwoSided) {
            if (first.isFarOut() || second.isFarOut() || third.isFarOut()) {
                return;
            }
            long turned = turn(first, second, third.screenX, third.screenY);
            if (turned == 0 || turned < 0 && !isTwoSided) {
                return;
            }
            isDrawn = true;
            area = Math.abs(turned);
            a = first;
            b = turned < 0 ? third : second;
            c = turned < 0 ? second : third;
            box.span(firstMiddle(Math.min(a.screenX, Math.min(b.screenX, c.screenX))),
                    firstMiddle(Math.min(a.screenY, Math.min(b.screenY, c.screenY))),
                    lastMiddle(Math.max(a.screenX, Math.max(b.screenX, c.screenX))),
                    lastMiddle(Math.max(a.screenY, Math.max(b.screenY, c.screenY))));
        }

        /** The first point whose middle is not before this place. */
        private static int firstMiddle(int least) {
            return Math.floorDiv(least + STEPS / 2 - 1, STEPS);
        }

        /** The last point whose middle is not behind this place. */
        private static int lastMiddle(int most) {
            return Math.floorDiv(most - STEPS / 2, STEPS);
        }

        /** Keeps the weights of the point, for the means that are asked for next. */
        boolean holds(int x, int y) {
            int middleX = STEPS * x + STEPS / 2;
            int middleY = STEPS * y + STEPS / 2;
            wa = turn(b, c, middleX, middleY);
            if (!isInside(wa, b, c)) {
                return false;
            }
            wb = turn(c, a, middleX, middleY);
            if (!isInside(wb, c, a)) {
                return false;
            }
            wc = turn(a, b, middleX, middleY);
            return isInside(wc, a, b);
        }

        private static long turn(Spot p, Spot q, int x, int y) {
            return (long) (q.screenX - p.screenX) * (y - p.screenY)
                    - (long) (q.screenY - p.screenY) * (x - p.screenX);
        }

        private static boolean isInside(long weight, Spot from, Spot to) {
            return weight > 0 || weight == 0 && (to.screenY < from.screenY
                    || to.screenY == from.screenY && to.screenX > from.screenX);
        }

        int depthHere() {
            return mean(a.depth, b.depth, c.depth);
        }

        /** Nothing here is less than 0, so a plain division cuts downwards. */
        int mean(int ofA, int ofB, int ofC) {
            return area == 0 ? 0 : (int) ((wa * ofA + wb * ofB + wc * ofC) / area);
        }

        int weightedMean(int ofA, int ofB, int ofC) {
            long weightA = wa * a.weight;
            long weightB = wb * b.weight;
            long weightC = wc * c.weight;
            long sum = weightA + weightB + weightC;
            return sum == 0 ? 0 : (int) ((weightA * ofA + weightB * ofB + weightC * ofC) / sum);
        }
    }

    /** Points of the screen, at first all, the last ones within. It never leaves the screen. */
    private static final class Box {
        int left;
        int top;
        int right = WIDTH - 1;
        int bottom = HEIGHT - 1;

        void span(int newLeft, int newTop, int newRight, int newBottom) {
            left = Math.max(0, newLeft);
            top = Math.max(0, newTop);
            right = Math.min(WIDTH - 1, newRight);
            bottom = Math.min(HEIGHT - 1, newBottom);
        }

        boolean spans(int x, int y) {
            return isWithin(x, left, right) && isWithin(y, top, bottom);
        }
    }

    private static final class Screen {
        final int[] colours = new int[POINTS];
        final int[] depths = new int[POINTS];
        final int[] panes = new int[POINTS];

        Screen() {
            for (int i = 0; i < POINTS; i++) {
                depths[i] = FARTHEST;
                panes[i] = NONE;
            }
        }

        void blank(Box box, int colour) {
            for (int y = box.top; y <= box.bottom; y++) {
                for (int x = box.left; x <= box.right; x++) {
                    int i = y * WIDTH + x;
                    colours[i] = colour;
                    depths[i] = FARTHEST;
                    panes[i] = NONE;
                }
            }
        }

        void copy(Screen other) {
            System.arraycopy(other.colours, 0, colours, 0, POINTS);
            System.arraycopy(other.depths, 0, depths, 0, POINTS);
            System.arraycopy(other.panes, 0, panes, 0, POINTS);
        }

        boolean differsFrom(Screen other, Box box) {
            for (int y = box.top; y <= box.bottom; y++) {
                for (int x = box.left; x <= box.right; x++) {
                    int i = y * WIDTH + x;
                    if (colours[i] != other.colours[i] || depths[i] != other.depths[i]
                            || panes[i] != other.panes[i]) {
                        return true;
                    }
                }
            }
            return false;
        }
    }

    /** Counts different colours in a table of places that is larger than the screen. */
    private static final class ColourSet {
        private static final int PLACES = 2048;
        private static final int SPREAD = 0x9E3779B1;
        private static final int SPREAD_SHIFT = 21;

        /** 0 is a free place; a colour is kept as the number behind it. */
        final int[] places = new int[PLACES];
        int size;

        void empty() {
            Arrays.fill(places, 0);
            size = 0;
        }

        void include(int colour) {
            int kept = colour + 1;
            int start = colour * SPREAD >>> SPREAD_SHIFT;
            for (int step = 0; step < PLACES; step++) {
                int place = (start + step) % PLACES;
                if (places[place] == kept) {
                    return;
                }
                if (places[place] == 0) {
                    places[place] = kept;
                    size++;
                    return;
                }
            }
        }
    }
}
