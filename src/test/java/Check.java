import java.lang.reflect.InvocationTargetException;
import java.lang.reflect.Method;
import java.util.ArrayList;
import java.util.Arrays;
import java.util.Comparator;
import java.util.List;
import java.util.function.IntSupplier;

/** What the tests share, as a class above theirs: running them, telling a board by a text, counting what is not as due. */
abstract class Check {
    /** No index, kind, what, box: for calls that have to refuse them. */
    static final int[] FAR = {Integer.MIN_VALUE, Integer.MIN_VALUE + 1, -1000000, 1000000, Integer.MAX_VALUE};

    static final String TWO = "device a ir 2 id 5 cells 3;device b ir 3 cells 2;"
        + "net n from a 0 and b 0 to b 1 safe 1;net m from a 1 to a 2;";
    static final int[] NO_KINDS = {-1, 3, Integer.MIN_VALUE, Integer.MAX_VALUE};
    static final int[] NO_BITS = {-1, 2, Integer.MIN_VALUE, Integer.MAX_VALUE};

    private static int wrong = 0;
    private static int count = 0;
    private static String test = "";

    static void due(String what, long got, long want) {
        count++;
        if (got != want) {
            wrong++;
            System.out.println(test + what + " answered " + got + ", due is " + want);
        }
    }

    static void due(String what, boolean got, boolean want) {
        due(what, got ? 1 : 0, want ? 1 : 0);
    }

    /** The tests of a class: its methods that are named by their promise, as p07_name, in the order of their names. */
    static List<Method> testsOf(Class<?> tests) {
        List<Method> all = new ArrayList<>();
        for (Method method : tests.getDeclaredMethods()) {
            if (method.getName().matches("p\\d\\d_.*")) {
                all.add(method);
            }
        }
        all.sort(Comparator.comparing(Method::getName));
        return all;
    }

    static void run(Class<?> tests) throws IllegalAccessException {
        for (Method method : testsOf(tests)) {
            test = method.getName() + ": ";
            int before = count;
            try {
                method.setAccessible(true);
                method.invoke(null);
            } catch (InvocationTargetException e) {
                e.getCause().printStackTrace(System.out);
                due("what was thrown", 1, 0);
            }
            due("that nothing was asked", count > before, true);
        }
        test = "";
        finish(tests.getSimpleName());
    }

    // ---- boards

    /** Puts the text on the tape, byte by byte; the tape has to be empty. */
    static void put(ScanBench x, String text) {
        for (int i = 0; i < text.length(); i += 20) {
            x.feed(four(text, i), four(text, i + 4), four(text, i + 8), four(text, i + 12), four(text, i + 16));
        }
        x.end(text.length());
    }

    private static int four(String text, int at) {
        int number = 0;
        for (int i = at; i < at + 4; i++) {
            number = number << 8 | (i < text.length() ? text.charAt(i) & 255 : 0);
        }
        return number;
    }

    static int tell(ScanBench x, String text) {
        put(x, text);
        return x.board();
    }

    static ScanBench told(String text) {
        ScanBench x = new ScanBench();
        if (tell(x, text) < 0) {
            due("board of " + text + ", fault " + x.fault(0) + " at " + x.fault(1), 1, 0);
        }
        return x;
    }

    static void fault(String text, int fault, int place) {
        ScanBench x = new ScanBench();
        String shown = text.replace('\n', '|');
        due("board of " + shown, tell(x, text) < 0, fault != 0);
        due("fault(0) of " + shown, x.fault(0), fault);
        due("fault(1) of " + shown, x.fault(1), place);
    }

    /** The fault is where the sign ^ stands in the text, which is taken out. */
    static void faultAt(int fault, String text) {
        fault(text.replace("^", ""), fault, text.indexOf('^'));
    }

    static void fine(String text) {
        fault(text, 0, -1);
    }

    /** A board of so many nets, each with a driver and a receiver. */
    static String nets(int nets) {
        StringBuilder text = new StringBuilder("device a ir 2 cells 6;device b ir 3 cells 6;");
        for (int n = 0; n < nets; n++) {
            text.append("net ").append((char) ('p' + n)).append(" from a ").append(n).append(" to b ").append(n).append(";");
        }
        return text.toString();
    }

    // ---- what there is

    /** Of a device all that can be asked. */
    static void device(ScanBench x, int device, int... wants) {
        for (int what = 0; what < 8; what++) {
            due("device(" + device + ", " + what + ")", x.device(device, what), wants[what]);
        }
    }

    static void net(ScanBench x, int net, int... wants) {
        for (int what = 0; what < 8; what++) {
            due("net(" + net + ", " + what + ")", x.net(net, what), wants[what]);
        }
    }

    static void cell(ScanBench x, int device, int cell, int... wants) {
        for (int what = 0; what < 4; what++) {
            due("cell(" + device + ", " + cell + ", " + what + ")", x.cell(device, cell, what), wants[what]);
        }
    }

    static void clocks(ScanBench x, int... tms) {
        for (int one : tms) {
            x.clock(one, 0);
        }
    }

    // ---- refused calls

    /** All that can be seen of an object by calls that do nothing. */
    static int[] all(ScanBench x) {
        List<Integer> all = new ArrayList<>();
        for (int what = 0; what < 14; what++) {
            all.add(x.about(what));
        }
        all.add(x.fault(0));
        all.add(x.fault(1));
        for (int d = 0; d < x.about(0); d++) {
            for (int what = 0; what < 8; what++) {
                all.add(x.device(d, what));
            }
            for (int c = 0; c < x.device(d, 2); c++) {
                all.add(x.cell(d, c, 3));
            }
        }
        for (int n = 0; n < x.about(1); n++) {
            for (int what = 0; what < 8; what++) {
                all.add(x.net(n, what));
            }
        }
        for (int i = 0; i < x.singles(); i++) {
            all.add(x.single(i, 3));
        }
        for (int i = 0; i < x.about(12); i++) {
            all.add(x.lies(i));
        }
        all.add(x.fits(Integer.MAX_VALUE));
        return all.stream().mapToInt(i -> i).toArray();
    }

    static void same(String what, ScanBench x, int[] was) {
        int[] is = all(x);
        due(what + ": all stays as it was: " + Arrays.toString(was) + ", now " + Arrays.toString(is), Arrays.equals(is, was), true);
    }

    /** A call that is refused, or only looks: its answer, and nothing is another thing behind it. */
    static void still(ScanBench x, String what, IntSupplier call, int want) {
        int[] was = all(x);
        due(what, call.getAsInt(), want);
        same(what, x, was);
    }

    static void finish(String name) {
        System.out.println(name + ": " + count + " answers, " + wrong + " not as due");
        if (wrong != 0) {
            System.exit(1);
        }
    }
}
