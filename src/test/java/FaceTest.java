import java.lang.management.ManagementFactory;
import java.lang.reflect.Constructor;
import java.lang.reflect.Field;
import java.lang.reflect.Method;
import java.lang.reflect.Modifier;
import java.util.HashSet;
import java.util.Set;
import java.util.TreeSet;

/** The face of the class, the rules of LANGUAGE.md that reflection can see, and the room. */
public final class FaceTest {
    private static final String[] FACE = {
        "int addCorner(int,int,int,int,int,int)", "int moveCorner(int,int,int,int)",
        "int setColour(int,int)", "int addPane(int,int,int,int,boolean,boolean)",
        "boolean show(int,boolean)", "int setPattern(int,int,int,int)",
        "boolean setRepeats(int,boolean)", "int setCamera(int,int,int,int,int)",
        "int setLens(int,int)", "int setBackground(int)", "int corners()", "int panes()",
        "int seen(int,int)", "int polygonOf(int)", "int cornerOf(int,int,int)",
        "int screenOf(int,int,int)", "int piecesOf(int)", "int pointsOf(int)",
        "boolean liesIn(int,int,int)", "int depthOf(int,int,int)", "int colourOf(int,int,int)",
        "int clear()", "int paint()", "int stale()", "boolean isStale(int)",
        "int colourAt(int,int)", "int depthAt(int,int)", "int paneAt(int,int)",
        "int pointsWith(int)", "int colours()", "int colourNow(int,int)", "int seenOf(int)",
        "int greatest()", "int glassAt(int,int)", "double brightness()", "long digest()"};

    public static void main(String[] args) {
        face();
        hidden();
        nestedClasses();
        room();
        Check.finish();
    }

    private static String signature(Method method) {
        StringBuilder text = new StringBuilder();
        for (Class<?> type : method.getParameterTypes()) {
            text.append(text.length() == 0 ? "" : ",").append(type.getSimpleName());
        }
        return method.getReturnType().getSimpleName() + " " + method.getName() + "(" + text + ")";
    }

    private static void face() {
        Set<String> got = new TreeSet<>();
        for (Method method : GlassRaster.class.getDeclaredMethods()) {
            if (Modifier.isPublic(method.getModifiers())) {
                got.add(signature(method));
                Check.holds("static " + method, !Modifier.isStatic(method.getModifiers()));
            }
        }
        Set<String> due = new TreeSet<>(Set.of(FACE));
        Check.holds("the face is " + got + ", due is " + due, got.equals(due));
        Constructor<?>[] constructors = GlassRaster.class.getDeclaredConstructors();
        Check.is("constructors", constructors.length, 1);
        Check.is("its parameters", constructors[0].getParameterCount(), 0);
        Check.holds("it is public", Modifier.isPublic(constructors[0].getModifiers()));
        Check.holds("the class is public and final",
                Modifier.isPublic(GlassRaster.class.getModifiers())
                        && Modifier.isFinal(GlassRaster.class.getModifiers()));
    }

    private static void hidden() {
        Set<String> names = new HashSet<>();
        for (String signature : FACE) {
            names.add(signature.replaceAll("\\(.*|.* ", ""));
        }
        for (Method method : GlassRaster.class.getDeclaredMethods()) {
            if (!Modifier.isPublic(method.getModifiers()) && !method.isSynthetic()) {
                Check.holds(method + " is private", Modifier.isPrivate(method.getModifiers()));
                Check.holds(method + " has a name of its own",
                        !names.contains(method.getName()));
            }
        }
    }

    private static void nestedClasses() {
        Class<?>[] nested = GlassRaster.class.getDeclaredClasses();
        Check.holds("some twelve classes", nested.length < 12);
        checkFields(GlassRaster.class, true);
        for (Class<?> one : nested) {
            Check.holds(one + " is hidden", !Modifier.isPublic(one.getModifiers())
                    && !Modifier.isProtected(one.getModifiers()));
            Check.holds(one + " is static", Modifier.isStatic(one.getModifiers()));
            checkFields(one, false);
        }
    }

    private static void checkFields(Class<?> one, boolean isOuter) {
        int count = 0;
        for (Field field : one.getDeclaredFields()) {
            int modifiers = field.getModifiers();
            count += Modifier.isStatic(modifiers) ? 0 : 1;
            Check.holds(field + " is final if it is static",
                    !Modifier.isStatic(modifiers) || Modifier.isFinal(modifiers));
            Check.holds(field + " is private", !isOuter || Modifier.isPrivate(modifiers));
        }
        Check.holds(one + " has some twenty fields", count <= 20);
        for (Method method : one.getDeclaredMethods()) {
            Check.holds(method + " has at most seven parameters",
                    method.getParameterCount() <= 7);
        }
    }

    /** All rows are made with the object: the calls of a whole run take next to no room. */
    private static void room() {
        com.sun.management.ThreadMXBean threads =
                (com.sun.management.ThreadMXBean) ManagementFactory.getThreadMXBean();
        long self = Thread.currentThread().getId();
        everyCall(new GlassRaster());
        long atFirst = threads.getThreadAllocatedBytes(self);
        GlassRaster raster = new GlassRaster();
        long made = threads.getThreadAllocatedBytes(self);
        for (int i = 0; i < 12; i++) {
            everyCall(raster);
        }
        long atLast = threads.getThreadAllocatedBytes(self);
        Check.holds("an object takes " + (made - atFirst) + " bytes", made - atFirst < 100000);
        Check.holds("calls took " + (atLast - made) + " bytes", atLast - made < 20000);
    }

    private static void everyCall(GlassRaster g) {
        int first = g.corners();
        if (first < 36) {
            g.addCorner(-100 - first, -100, 0, 255, 0, 0);
            g.addCorner(100, -100, first, 65280, 2047, 0);
            g.addCorner(0, 150, 0, 16777215, 0, 2047);
            g.addPane(first, first + 1, first + 2, 2, first % 2 == 0, true);
        }
        g.moveCorner(0, -101, -101, 0);
        g.setColour(0, first);
        g.show(0, first % 2 == 0);
        g.setPattern(2, 3, 4, 5);
        g.setRepeats(2, first % 2 == 0);
        g.setCamera(2, 0, 0, 1024, 500 + first);
        g.setLens(100, 40);
        g.setBackground(first);
        g.panes();
        g.seen(0, 0);
        g.polygonOf(0);
        g.cornerOf(0, 0, 0);
        g.screenOf(0, 0, 0);
        g.piecesOf(0);
        g.pointsOf(0);
        g.liesIn(0, 20, 12);
        g.depthOf(0, 20, 12);
        g.colourOf(0, 20, 12);
        g.clear();
        g.paint();
        g.stale();
        g.isStale(7);
        g.colourAt(20, 12);
        g.depthAt(20, 12);
        g.paneAt(20, 12);
        g.pointsWith(0);
        g.colours();
        g.colourNow(20, 12);
        g.seenOf(0);
        g.greatest();
        g.glassAt(20, 12);
        g.brightness();
        g.digest();
    }
}
