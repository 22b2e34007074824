import java.lang.reflect.Array;
import java.lang.reflect.Field;
import java.lang.reflect.Method;
import java.lang.reflect.Modifier;
import java.util.IdentityHashMap;

/** Each promise has tests that are named by it; and what one object takes of the room that all calls of a run share. */
public final class PromisesTest extends Check {
    private static final Class<?>[] TESTS = {TapeTest.class, DevicesTest.class, ActsTest.class, WalkTest.class, CodeTest.class,
        SinglesTest.class};

    private static void eachHasTests() {
        int[] counts = new int[50];
        for (Class<?> tests : TESTS) {
            for (Method method : testsOf(tests)) {
                counts[Integer.parseInt(method.getName().substring(1, 3))]++;
            }
        }
        for (int promise = 1; promise <= 49; promise++) {
            due("tests of promise " + promise + ": " + counts[promise] + ", that they are two", counts[promise] >= 2, true);
        }
    }

    /** Fields and elements of an object and all that it has. */
    private static int fields(Object o, IdentityHashMap<Object, Object> met) throws IllegalAccessException {
        if (o == null || met.put(o, o) != null) {
            return 0;
        }
        if (o.getClass().isArray()) {
            return Array.getLength(o);
        }
        int count = 0;
        for (Field field : o.getClass().getDeclaredFields()) {
            if (!Modifier.isStatic(field.getModifiers())) {
                field.setAccessible(true);
                count += 1 + (field.getType().isPrimitive() ? 0 : fields(field.get(o), met));
            }
        }
        return count;
    }

    /** What is made with an object is used again: calls add nothing to it. */
    private static void room() throws IllegalAccessException {
        ScanBench x = new ScanBench();
        IdentityHashMap<Object, Object> met = new IdentityHashMap<>();
        int fields = fields(x, met);
        int objects = met.size();
        due("fields and elements of one: " + fields + ", that they are few", fields < 7000, true);
        due("objects of one: " + objects + ", that they are few", objects < 100, true);
        tell(x, "device a ir 2 id 5 cells 6;net n from a 0 to a 1;net m from a 2 to a 3;open a 1;floats cell;");
        for (int i = 0; i < 45; i++) {
            x.scan(1, 0, 2);
            x.harm(i % x.singles());
            x.seen(0, 0, 0, 1, true);
            x.fits(0);
            x.image(i % 3);
            x.walk(0, i % 16);
            x.undo();
        }
        met.clear();
        due("fields and elements behind many calls", fields(x, met), fields);
        due("objects behind many calls: " + met.size() + ", that they are no more", met.size() <= objects, true);
    }

    public static void main(String[] args) throws Exception {
        eachHasTests();
        room();
        finish("PromisesTest");
    }
}
