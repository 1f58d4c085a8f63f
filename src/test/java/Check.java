/** Counts what is not as due; every test ends with {@link #finish}. */
final class Check {
    private static int wrong = 0;
    private static int looked = 0;
    private static String about = "";

    private Check() {
    }

    /** What is looked at from now on; reports begin with it. */
    static void about(String text) {
        about = text.isEmpty() ? "" : text + ": ";
    }

    static int looked() {
        return looked;
    }

    static void is(String what, long got, long due) {
        looked++;
        if (got != due) {
            report(what + " answered " + got + ", due is " + due);
        }
    }

    static void is(String what, boolean got, boolean due) {
        is(what, got ? 1 : 0, due ? 1 : 0);
    }

    static void isDouble(String what, double got, double due) {
        looked++;
        if (got != due) {
            report(what + " answered " + got + ", due is " + due);
        }
    }

    static void holds(String what, boolean itHolds) {
        looked++;
        if (!itHolds) {
            report(what);
        }
    }

    /** The call throws just this exception, and nothing of the object changes. */
    static void refuses(GlassRaster raster, Class<? extends RuntimeException> due, String what,
            Runnable call) {
        looked++;
        long before = raster.digest();
        Class<?> got = null;
        try {
            call.run();
        } catch (RuntimeException e) {
            got = e.getClass();
        }
        if (got != due) {
            report(what + " threw " + got + ", due is " + due);
        }
        if (raster.digest() != before) {
            report(what + " threw and changed something");
        }
    }

    static void refusesIndex(GlassRaster raster, String what, Runnable call) {
        refuses(raster, IndexOutOfBoundsException.class, what, call);
    }

    static void refusesArgument(GlassRaster raster, String what, Runnable call) {
        refuses(raster, IllegalArgumentException.class, what, call);
    }

    static void refusesState(GlassRaster raster, String what, Runnable call) {
        refuses(raster, IllegalStateException.class, what, call);
    }

    static void report(String text) {
        wrong++;
        if (wrong <= 20) {
            System.out.println(about + text);
        }
    }

    static void finish() {
        if (wrong != 0 || looked == 0) {
            System.out.println(wrong + " of " + looked + " answers are not as due");
            System.exit(1);
        }
        System.out.println(looked + " answers are as due");
    }
}
