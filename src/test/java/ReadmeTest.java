import java.lang.reflect.Method;
import java.nio.file.Files;
import java.nio.file.Path;
import java.util.regex.Matcher;
import java.util.regex.Pattern;

/** README.md shows calls, each with what it answers behind it: so do they here. */
public final class ReadmeTest extends Check {
    private static final Pattern CALL = Pattern.compile("^([xy])\\.(\\w+)\\((.*)\\); +// (-?\\d+|true|false)\\b.*");

    private static Method named(String name) {
        for (Method method : ScanBench.class.getMethods()) {
            if (method.getName().equals(name)) {
                return method;
            }
        }
        return null;
    }

    private static String answer(ScanBench bench, String name, String told) throws Exception {
        Method method = named(name);
        String[] parts = told.isEmpty() ? new String[0] : told.split(", ");
        if (method == null || parts.length != method.getParameterCount()) {
            return "no such call";
        }
        Object[] arguments = new Object[parts.length];
        for (int i = 0; i < parts.length; i++) {
            boolean isWord = method.getParameterTypes()[i] == boolean.class;
            arguments[i] = isWord ? (Object) Boolean.valueOf(parts[i]) : (Object) Integer.decode(parts[i]);
        }
        return "" + method.invoke(bench, arguments);
    }

    private static String block(String page, String sort) {
        Matcher block = Pattern.compile("(?s)```" + sort + "\n(.*?)```").matcher(page);
        return block.find() ? block.group(1) : "";
    }

    public static void main(String[] args) throws Exception {
        String page = Files.readString(Path.of("README.md"));
        ScanBench x = told(block(page, "text"));
        ScanBench y = new ScanBench();
        int calls = 0;
        for (String line : page.split("\n")) {
            Matcher call = CALL.matcher(line);
            if (call.matches()) {
                String got = answer(call.group(1).equals("x") ? x : y, call.group(2), call.group(3));
                due(line + " answered " + got + ", that it is so", got.equals(call.group(4)), true);
                calls++;
            }
            due("a call without its answer: " + line, line.matches("^[xy]\\..*") && !call.matches(), false);
        }
        due("calls shown: " + calls + ", that they are many", calls > 40, true);
        finish("ReadmeTest");
    }
}
