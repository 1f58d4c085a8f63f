import java.util.function.Consumer;
import java.util.function.ObjIntConsumer;

/** Looks that calls throw what they should, and that those that throw change nothing. */
final class Refused {
    static final Class<? extends RuntimeException> INDEX = IndexOutOfBoundsException.class;
    static final Class<? extends RuntimeException> ARGUMENT = IllegalArgumentException.class;
    static final Class<? extends RuntimeException> STATE = IllegalStateException.class;

    private Refused() {
    }

    private static Class<?> thrownBy(GlassRaster g, Consumer<GlassRaster> call) {
        try {
            call.accept(g);
            return null;
        } catch (RuntimeException e) {
            return e.getClass();
        }
    }

    /** The call throws just this, and the object answers as one without the call. */
    static void by(Stage stage, Class<? extends RuntimeException> due, String what,
            Consumer<GlassRaster> call) {
        GlassRaster g = stage.make();
        Class<?> got = thrownBy(g, call);
        Check.holds(what + " threw " + got + ", due is " + due, got == due);
        Check.holds(what + " changed something", Stage.answersOf(g).equals(stage.answers()));
    }

    /** The call changes nothing, and throws nothing either. */
    static void nothingChangedBy(String what, Consumer<GlassRaster> call) {
        for (Stage stage : Stage.values()) {
            if (stage != Stage.EMPTY) {
                by(stage, null, what, call);
            }
        }
    }

    /** The numbers just and far beyond the range are refused. */
    static void beyond(Stage stage, Class<? extends RuntimeException> due, int least, int most,
            ObjIntConsumer<GlassRaster> call) {
        int[] wrong = {least - 1, most + 1, Integer.MIN_VALUE, Integer.MAX_VALUE};
        for (int number : wrong) {
            by(stage, due, "with " + number + " on " + stage, g -> call.accept(g, number));
        }
    }

    /** The least and the most of the range are taken, what is beyond it is refused. */
    static void outside(Stage stage, Class<? extends RuntimeException> due, int least, int most,
            ObjIntConsumer<GlassRaster> call) {
        beyond(stage, due, least, most, call);
        int[] right = {least, most};
        for (int number : right) {
            Class<?> got = thrownBy(stage.make(), g -> call.accept(g, number));
            Check.holds("with " + number + " on " + stage + " threw " + got, got == null);
        }
    }

    /** The number of a corner: none of a new object's, 0 to 5, 0 to 39. */
    static void noSuchCorner(ObjIntConsumer<GlassRaster> call) {
        beyond(Stage.EMPTY, INDEX, 0, -1, call);
        outside(Stage.SOME, INDEX, 0, 5, call);
        outside(Stage.FULL, INDEX, 0, 39, call);
    }

    /** The number of a pane: none of a new object's, 0 to 2, 0 to 29. */
    static void noSuchPane(ObjIntConsumer<GlassRaster> call) {
        beyond(Stage.EMPTY, INDEX, 0, -1, call);
        outside(Stage.SOME, INDEX, 0, 2, call);
        outside(Stage.FULL, INDEX, 0, 29, call);
    }
}
