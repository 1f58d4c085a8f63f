import java.util.Random;
import java.util.function.LongSupplier;

/**
 * Runs of up to 512 calls, drawn by lot from fixed seeds, each answered by the class and by
 * {@link PlainRaster}. The first argument, if there is one, is the number of runs.
 */
public final class RandomRunsTest {
    private static final int CALLS = 512;
    private static final int[] EXTREME = {Integer.MIN_VALUE, Integer.MAX_VALUE, -1, 1 << 30,
        -(1 << 30), 65536, -65536};

    private final Random random;
    private final long seed;
    private final int kind;
    private final GlassRaster got = new GlassRaster();
    private final PlainRaster due = new PlainRaster();
    private int call;

    private RandomRunsTest(long seed) {
        this.seed = seed;
        random = new Random(seed);
        kind = random.nextInt(6);
    }

    public static void main(String[] args) {
        int runs = args.length > 0 ? Integer.parseInt(args[0]) : 150;
        for (int i = 0; i < runs; i++) {
            new RandomRunsTest(1000 + i).run();
        }
        Check.finish();
    }

    private void run() {
        int corners = kind == 3 ? 40 : 3 + random.nextInt(12);
        int panes = kind == 3 ? 30 : 1 + random.nextInt(8);
        camera();
        for (int i = 0; i < corners; i++) {
            addCorner(false);
        }
        for (int i = 0; i < panes; i++) {
            addPane(false);
        }
        for (int i = 0; i < 40; i++) {
            setPattern(false);
        }
        // Some lots ask for two answers.
        while (call < CALLS - 2) {
            anyCall(random.nextInt(12) == 0);
        }
        same("digest", got::digest, due::digest);
    }

    private void same(String what, LongSupplier one, LongSupplier other) {
        String answer = answerOf(one);
        String dueAnswer = answerOf(other);
        Check.holds("seed " + seed + ", call " + call + ": " + what + " answered " + answer
                + ", due is " + dueAnswer, answer.equals(dueAnswer));
        call++;
    }

    private static String answerOf(LongSupplier call) {
        try {
            return Long.toString(call.getAsLong());
        } catch (RuntimeException e) {
            return e.getClass().getSimpleName();
        }
    }

    private static long bit(boolean is) {
        return is ? 1 : 0;
    }

    /** A number of the range; if it may be wrong, one just beyond or far beyond it too. */
    private int number(int least, int most, boolean mayBeWrong) {
        if (mayBeWrong && random.nextInt(3) == 0) {
            int lot = random.nextInt(EXTREME.length + 4);
            return lot < EXTREME.length ? EXTREME[lot] : lot % 2 == 0 ? least - 1 : most + 1;
        }
        int lot = random.nextInt(20);
        return lot == 0 ? least : lot == 1 ? most : least + random.nextInt(most - least + 1);
    }

    /** Of the kind of run: on steps of a half point, near the camera, or anywhere. */
    private int place(boolean mayBeWrong) {
        if (mayBeWrong) {
            return number(-2000, 2000, true);
        }
        switch (kind) {
            case 0:
                return 8 * (random.nextInt(60) - 30);
            case 1:
                return random.nextInt(41) - 20;
            case 2:
                return random.nextInt(601) - 300;
            case 3:
                return random.nextInt(801) - 400;
            case 4:
                return 16 * (random.nextInt(24) - 12) + 8;
            default:
                return number(-2000, 2000, false);
        }
    }

    private int depthPlace(boolean mayBeWrong) {
        if (!mayBeWrong && (kind == 0 || kind == 4)) {
            return random.nextInt(4) == 0 ? 640 : 0;
        }
        return place(mayBeWrong);
    }

    private int colour(boolean mayBeWrong) {
        return random.nextInt(3) == 0 ? number(0, 16777215, mayBeWrong)
                : random.nextBoolean() ? 0xFF << 8 * random.nextInt(3) : 0xFFFFFF;
    }

    private void camera() {
        if (kind == 0 || kind == 4) {
            same("flat", () -> got.setCamera(2, 0, 0, 1024, 640),
                    () -> due.setCamera(2, 0, 0, 1024, 640));
        } else if (kind == 1) {
            int near = 1 + random.nextInt(4);
            int focus = 1 + random.nextInt(20);
            same("near", () -> got.setCamera(2, 0, 0, 1024, 5),
                    () -> due.setCamera(2, 0, 0, 1024, 5));
            same("near", () -> got.setLens(near, focus), () -> due.setLens(near, focus));
        } else if (kind == 2) {
            setLens(false);
        }
    }

    private void anyCall(boolean mayBeWrong) {
        if (random.nextInt(5) < 2) {
            change(mayBeWrong);
        } else {
            ask(mayBeWrong);
        }
    }

    private void change(boolean mayBeWrong) {
        int lot = random.nextInt(20);
        if (lot == 0) {
            addCorner(mayBeWrong);
        } else if (lot < 3) {
            addPane(mayBeWrong);
        } else if (lot < 8) {
            moveCorner(mayBeWrong);
        } else if (lot < 10) {
            int corner = number(0, Math.max(0, due.corners() - 1), mayBeWrong);
            int colour = colour(mayBeWrong);
            same("setColour(" + corner + ", " + colour + ")",
                    () -> got.setColour(corner, colour), () -> due.setColour(corner, colour));
        } else if (lot < 13) {
            int pane = pane(mayBeWrong);
            boolean isShown = random.nextInt(3) != 0;
            same("show(" + pane + ", " + isShown + ")", () -> bit(got.show(pane, isShown)),
                    () -> bit(due.show(pane, isShown)));
        } else if (lot == 13) {
            setPattern(mayBeWrong);
        } else if (lot == 14) {
            int pattern = number(0, 3, mayBeWrong);
            boolean repeats = random.nextBoolean();
            same("setRepeats", () -> bit(got.setRepeats(pattern, repeats)),
                    () -> bit(due.setRepeats(pattern, repeats)));
        } else if (lot == 15) {
            setCamera(mayBeWrong);
        } else if (lot == 16) {
            setLens(mayBeWrong);
        } else if (lot == 17) {
            int colour = colour(mayBeWrong);
            same("setBackground(" + colour + ")", () -> got.setBackground(colour),
                    () -> due.setBackground(colour));
        } else if (lot == 18) {
            same("clear", got::clear, due::clear);
        } else {
            same("paint", got::paint, due::paint);
        }
    }

    private int pane(boolean mayBeWrong) {
        return number(0, Math.max(0, due.panes() - 1), mayBeWrong);
    }

    private void addCorner(boolean mayBeWrong) {
        int x = place(mayBeWrong);
        int y = place(mayBeWrong);
        int z = depthPlace(mayBeWrong);
        int colour = colour(mayBeWrong);
        int u = number(0, 2047, mayBeWrong);
        int v = number(0, 2047, mayBeWrong);
        same("addCorner(" + x + ", " + y + ", " + z + ", " + colour + ", " + u + ", " + v + ")",
                () -> got.addCorner(x, y, z, colour, u, v),
                () -> due.addCorner(x, y, z, colour, u, v));
    }

    private void moveCorner(boolean mayBeWrong) {
        int corner = number(0, Math.max(0, due.corners() - 1), mayBeWrong);
        int x = place(mayBeWrong);
        int y = place(mayBeWrong);
        int z = depthPlace(mayBeWrong);
        same("moveCorner(" + corner + ", " + x + ", " + y + ", " + z + ")",
                () -> got.moveCorner(corner, x, y, z), () -> due.moveCorner(corner, x, y, z));
    }

    private void addPane(boolean mayBeWrong) {
        int most = Math.max(0, due.corners() - 1);
        int first = number(0, most, mayBeWrong);
        int second = number(0, most, mayBeWrong);
        int third = number(0, most, mayBeWrong);
        int pattern = number(-1, 3, mayBeWrong);
        boolean isClear = random.nextInt(3) == 0;
        boolean isTwoSided = random.nextInt(3) != 0;
        same("addPane(" + first + ", " + second + ", " + third + ", " + pattern + ")",
                () -> got.addPane(first, second, third, pattern, isClear, isTwoSided),
                () -> due.addPane(first, second, third, pattern, isClear, isTwoSided));
    }

    private void setPattern(boolean mayBeWrong) {
        int pattern = number(0, 3, mayBeWrong);
        int column = number(0, 7, mayBeWrong);
        int row = number(0, 7, mayBeWrong);
        int colour = number(0, 16777215, mayBeWrong);
        same("setPattern(" + pattern + ", " + column + ", " + row + ", " + colour + ")",
                () -> got.setPattern(pattern, column, row, colour),
                () -> due.setPattern(pattern, column, row, colour));
    }

    private void setCamera(boolean mayBeWrong) {
        int row = number(0, 2, mayBeWrong);
        boolean isWild = mayBeWrong || kind == 5;
        int a = isWild ? number(-4096, 4096, mayBeWrong) : row == 0 ? 1024 : small();
        int b = isWild ? number(-4096, 4096, mayBeWrong) : row == 1 ? 1024 : small();
        int c = isWild ? number(-4096, 4096, mayBeWrong) : row == 2 ? 1024 : small();
        int t = isWild ? number(-5000, 5000, mayBeWrong) : row == 2 ? 500 + small() : small();
        same("setCamera(" + row + ", " + a + ", " + b + ", " + c + ", " + t + ")",
                () -> got.setCamera(row, a, b, c, t), () -> due.setCamera(row, a, b, c, t));
    }

    private int small() {
        return random.nextBoolean() ? 0 : random.nextInt(400) - 200;
    }

    private void setLens(boolean mayBeWrong) {
        boolean isClose = random.nextBoolean();
        int near = isClose ? number(1, 5, mayBeWrong) : number(1, 1000, mayBeWrong);
        int focus = isClose ? number(1, 20, mayBeWrong) : number(1, 500, mayBeWrong);
        same("setLens(" + near + ", " + focus + ")", () -> got.setLens(near, focus),
                () -> due.setLens(near, focus));
    }

    private void ask(boolean mayBeWrong) {
        int x = number(0, 39, mayBeWrong);
        int y = number(0, 23, mayBeWrong);
        int pane = pane(mayBeWrong);
        int lot = random.nextInt(26);
        if (lot < 8) {
            askSteps(lot, pane, x, y);
        } else if (lot < 10) {
            int corner = number(0, Math.max(0, due.corners() - 1), mayBeWrong);
            int row = number(0, 2, mayBeWrong);
            same("seen(" + corner + ", " + row + ")", () -> got.seen(corner, row),
                    () -> due.seen(corner, row));
        } else if (lot < 14) {
            int k = mayBeWrong ? number(0, 3, true) : random.nextInt(4);
            int what = number(0, 5, mayBeWrong);
            int whatOfScreen = number(0, 3, mayBeWrong);
            same("cornerOf(" + pane + ", " + k + ", " + what + ")",
                    () -> got.cornerOf(pane, k, what), () -> due.cornerOf(pane, k, what));
            same("screenOf(" + pane + ", " + k + ", " + whatOfScreen + ")",
                    () -> got.screenOf(pane, k, whatOfScreen),
                    () -> due.screenOf(pane, k, whatOfScreen));
        } else if (lot < 20) {
            askPicture(lot, pane, x, y, number(0, 14, mayBeWrong));
        } else {
            askWouldBe(lot, pane, x, y);
        }
    }

    private void askSteps(int lot, int pane, int x, int y) {
        String at = "(" + pane + ", " + x + ", " + y + ")";
        if (lot == 0) {
            same("polygonOf" + at, () -> got.polygonOf(pane), () -> due.polygonOf(pane));
        } else if (lot == 1) {
            same("piecesOf" + at, () -> got.piecesOf(pane), () -> due.piecesOf(pane));
        } else if (lot == 2) {
            same("pointsOf" + at, () -> got.pointsOf(pane), () -> due.pointsOf(pane));
        } else if (lot < 4) {
            same("liesIn" + at, () -> bit(got.liesIn(pane, x, y)),
                    () -> bit(due.liesIn(pane, x, y)));
        } else if (lot < 6) {
            same("depthOf" + at, () -> got.depthOf(pane, x, y), () -> due.depthOf(pane, x, y));
        } else {
            same("colourOf" + at, () -> got.colourOf(pane, x, y),
                    () -> due.colourOf(pane, x, y));
        }
    }

    private void askPicture(int lot, int pane, int x, int y, int tile) {
        String at = "(" + x + ", " + y + ")";
        if (lot == 14) {
            same("stale", got::stale, due::stale);
        } else if (lot == 15) {
            same("isStale(" + tile + ")", () -> bit(got.isStale(tile)),
                    () -> bit(due.isStale(tile)));
        } else if (lot == 16) {
            same("colourAt" + at, () -> got.colourAt(x, y), () -> due.colourAt(x, y));
        } else if (lot == 17) {
            same("depthAt" + at, () -> got.depthAt(x, y), () -> due.depthAt(x, y));
        } else if (lot == 18) {
            same("paneAt" + at, () -> got.paneAt(x, y), () -> due.paneAt(x, y));
        } else {
            same("pointsWith(" + pane + ")", () -> got.pointsWith(pane),
                    () -> due.pointsWith(pane));
        }
    }

    private void askWouldBe(int lot, int pane, int x, int y) {
        String at = "(" + x + ", " + y + ")";
        if (lot == 20) {
            same("colours", got::colours, due::colours);
        } else if (lot == 21) {
            same("colourNow" + at, () -> got.colourNow(x, y), () -> due.colourNow(x, y));
        } else if (lot == 22) {
            same("seenOf(" + pane + ")", () -> got.seenOf(pane), () -> due.seenOf(pane));
        } else if (lot == 23) {
            same("greatest", got::greatest, due::greatest);
        } else if (lot == 24) {
            same("glassAt" + at, () -> got.glassAt(x, y), () -> due.glassAt(x, y));
        } else {
            same("brightness", () -> Double.doubleToLongBits(got.brightness()),
                    () -> Double.doubleToLongBits(due.brightness()));
        }
    }
}
