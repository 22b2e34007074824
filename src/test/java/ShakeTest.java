import java.lang.reflect.InvocationTargetException;
import java.lang.reflect.Method;
import java.lang.reflect.Modifier;
import java.util.ArrayList;
import java.util.Comparator;
import java.util.List;
import java.util.Random;

/** Whatever is called with whatever numbers, nothing is thrown, and the same calls give the same answers. */
public final class ShakeTest {
    private static final int[] EDGES = {Integer.MIN_VALUE, -1601, -2, -1, 0, 1, 2, 3, 4, 5, 6, 7, 15, 16, 30, 31, 32, 60, 61,
        63, 64, 1000, 1600, 9999, 100000, Integer.MAX_VALUE};
    private static final String[] TEXTS = {"", "device a ir 2 cells 0;noise 100;", "device a ir 4 id 127 cells 6;device b ir 3 "
        + "cells 6;net p from a 0 and a 1 to b 0 b 1 b 2;net q from a 2 to b 3 safe 1;net r from a 3 to b 4;short p r low;"
        + "open b 3;stuck r 1;floats (clock-cell)/(net-1)%(device-1);noise 50;draw 999;"};

    private static long shake(List<Method> face, int seed) throws IllegalAccessException {
        Random random = new Random(seed);
        ScanBench x = new ScanBench();
        Check.tell(x, TEXTS[seed % TEXTS.length]);
        long sum = 0;
        for (int i = 0; i < 500; i++) {
            Method method = face.get(random.nextInt(face.size()));
            Object[] arguments = new Object[method.getParameterCount()];
            for (int a = 0; a < arguments.length; a++) {
                boolean edge = random.nextBoolean();
                int number = edge ? EDGES[random.nextInt(EDGES.length)] : random.nextInt(8);
                arguments[a] = method.getParameterTypes()[a] == boolean.class ? (Object) edge : (Object) number;
            }
            try {
                Object answer = method.invoke(x, arguments);
                sum = sum * 31 + (answer instanceof Boolean b ? b ? 1 : 0 : (Integer) answer);
            } catch (InvocationTargetException e) {
                Check.due(method + " threw " + e.getCause(), 1, 0);
            }
        }
        return sum;
    }

    public static void main(String[] args) throws IllegalAccessException {
        List<Method> face = new ArrayList<>();
        for (Method method : ScanBench.class.getDeclaredMethods()) {
            // board() would empty all, as what is fed here is no text
            if (Modifier.isPublic(method.getModifiers()) && !method.getName().equals("board")) {
                face.add(method);
            }
        }
        face.sort(Comparator.comparing(Method::getName));
        for (int seed = 0; seed < 300; seed++) {
            Check.due("once more " + seed, shake(face, seed), shake(face, seed));
        }
        Check.finish("ShakeTest");
    }
}
