import java.lang.management.ManagementFactory;
import java.lang.reflect.Constructor;
import java.lang.reflect.Field;
import java.lang.reflect.Method;
import java.lang.reflect.Modifier;
import java.util.Arrays;
import java.util.TreeSet;

/** The public face is the document's and no more, and calls make no objects. */
public final class FaceTest {
    private static final long ROOM = 200_000;

    public static void main(String[] args) {
        Check.same("class", Modifier.toString(LiftGroup.class.getModifiers()), "public final");
        Check.same("methods", methods().toString(), "[about(int) int,"
                + " building(int,int,int) void throws IllegalArgumentException,"
                + " call(int,int) int throws IllegalArgumentException,IllegalStateException,UnsupportedOperationException,"
                + " car(int,int) int throws NoSuchElementException,IllegalArgumentException,"
                + " curtain(int,boolean) void throws NoSuchElementException,"
                + " event(int,int) int throws IndexOutOfBoundsException,IllegalArgumentException,"
                + " fail(int,boolean) void throws NoSuchElementException,"
                + " lock(int,boolean) void throws NoSuchElementException,"
                + " promise(int) int throws NoSuchElementException,"
                + " recall(boolean) void,"
                + " rider(int,int) int throws NoSuchElementException,IllegalArgumentException,"
                + " step(int) void throws IllegalArgumentException,"
                + " stop(int,int) boolean throws NoSuchElementException,IllegalArgumentException,"
                + " worst(int) int throws NoSuchElementException]");
        Check.same("fields", fields().toString(), "[public static final int NONE]");
        Check.same("constructors", constructors().toString(), "[public LiftGroup()]");
        Check.same("NONE", LiftGroup.NONE, -1);
        callsMakeNoObjects();
        Check.end("FaceTest");
    }

    private static TreeSet<String> methods() {
        TreeSet<String> found = new TreeSet<>();
        for (Method m : LiftGroup.class.getDeclaredMethods()) {
            if (!Modifier.isPrivate(m.getModifiers())) {
                String thrown = names(m.getExceptionTypes());
                found.add(m.getName() + "(" + names(m.getParameterTypes()) + ") " + m.getReturnType().getSimpleName()
                        + (thrown.isEmpty() ? "" : " throws " + thrown));
            }
        }
        return found;
    }

    private static String names(Class<?>[] types) {
        return String.join(",", Arrays.stream(types).map(Class::getSimpleName).toList());
    }

    private static TreeSet<String> fields() {
        TreeSet<String> found = new TreeSet<>();
        for (Field f : LiftGroup.class.getDeclaredFields()) {
            if (!Modifier.isPrivate(f.getModifiers())) {
                found.add(Modifier.toString(f.getModifiers()) + " " + f.getType() + " " + f.getName());
            }
        }
        return found;
    }

    private static TreeSet<String> constructors() {
        TreeSet<String> found = new TreeSet<>();
        for (Constructor<?> c : LiftGroup.class.getDeclaredConstructors()) {
            found.add(c.toString());
        }
        return found;
    }

    /** The dearest calls there are: 24 riders choose among 4 cars with broken curtains, again and again. */
    private static void callsMakeNoObjects() {
        LiftGroup x = new LiftGroup();
        fillAndUse(x, 1);
        long before = allocated();
        fillAndUse(x, 100);
        long made = allocated() - before;
        Check.same("bytes made by 100 rounds of calls stay under " + ROOM + " (" + made + ")", made < ROOM ? 1 : 0, 1);
    }

    private static void fillAndUse(LiftGroup x, int rounds) {
        x.building(10, 4, 1);
        for (int r = 0; r < 24; r++) {
            x.call(r % 10, (r + 5) % 10);
        }
        for (int i = 0; i < rounds; i++) {
            x.curtain(i % 4, i % 3 != 0);
            x.recall(true);
            x.recall(false);
            x.lock(i % 4, true);
            x.lock(i % 4, false);
            x.worst(i % 4);
            x.promise(i % 24);
            x.step(1);
        }
    }

    private static long allocated() {
        return ((com.sun.management.ThreadMXBean) ManagementFactory.getThreadMXBean()).getCurrentThreadAllocatedBytes();
    }
}
