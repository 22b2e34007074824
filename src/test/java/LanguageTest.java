import java.lang.reflect.Constructor;
import java.lang.reflect.Field;
import java.lang.reflect.Method;
import java.lang.reflect.Modifier;
import java.nio.file.Files;
import java.nio.file.Path;
import java.util.ArrayList;
import java.util.List;
import java.util.TreeSet;
import java.util.regex.Matcher;
import java.util.regex.Pattern;

/** The face of the class, and those rules of LANGUAGE.md that a look at the source and the class can tell. */
public final class LanguageTest {
    private static final String[] FACE = {
        "int feed(int,int,int,int,int)", "int end(int)", "int board()", "int fault(int)", "int device(int,int)",
        "int net(int,int)", "int cell(int,int,int)", "int clock(int,int)", "int scan(int,int,int)", "int harm(int)",
        "boolean undo()", "boolean redo()", "int goes(int,int)", "int walk(int,int)", "int walks(int,int)",
        "int farthest(int)", "int length(int)", "int found(int)", "int fights()", "int unsafe()", "int steps(int)",
        "int tells(int,int)", "int answer(int,int,int)", "int good(int)", "int aliased(int)", "int confounded(int,int)",
        "int verdict(int,int)", "int singles()", "int single(int,int)", "int apart(int,int,int)", "int told(int,int)",
        "int least()", "int mendFirst(int)", "int safest(int)", "int cost(int)", "int worst()", "int law(int)",
        "int odds(int,int)", "int lies(int)", "int seen(int,int,int,int,boolean)", "boolean untell(int)",
        "int later(int)", "int fits(int)", "int culprit(int,int)", "int ask(int,int,int)", "int image(int)",
        "int back(int)", "int about(int)"};

    private static void no(String what, boolean is) {
        Check.due(what, is, false);
    }

    private static void face() {
        TreeSet<String> wanted = new TreeSet<>(List.of(FACE));
        TreeSet<String> there = new TreeSet<>();
        TreeSet<String> names = new TreeSet<>();
        for (Method m : ScanBench.class.getDeclaredMethods()) {
            if (Modifier.isPrivate(m.getModifiers()) || m.isSynthetic()) {
                continue;
            }
            StringBuilder s = new StringBuilder(m.getReturnType() + " " + m.getName() + "(");
            for (Class<?> p : m.getParameterTypes()) {
                s.append(s.charAt(s.length() - 1) == '(' ? "" : ",").append(p);
            }
            there.add(s.append(")").toString());
            names.add(m.getName());
            no(m + " is not public", !Modifier.isPublic(m.getModifiers()));
        }
        no("the face is " + there, !wanted.equals(there));
        for (Class<?> c : ScanBench.class.getDeclaredClasses()) {
            no(c + " is not static", !Modifier.isStatic(c.getModifiers()));
            for (Method m : c.getDeclaredMethods()) {
                no(m + " bears a public name", names.contains(m.getName()));
            }
        }
        for (Method m : ScanBench.class.getDeclaredMethods()) {
            no(m + " bears a public name", Modifier.isPrivate(m.getModifiers()) && names.contains(m.getName()));
        }
        for (Constructor<?> c : ScanBench.class.getDeclaredConstructors()) {
            no(c + " is not the one", !Modifier.isPublic(c.getModifiers()) || c.getParameterCount() != 0);
        }
        for (Field f : ScanBench.class.getDeclaredFields()) {
            no(f + " is seen", !Modifier.isPrivate(f.getModifiers()) && !f.getName().equals("NONE"));
        }
        no("the class is not final", !Modifier.isFinal(ScanBench.class.getModifiers()));
        Check.due("NONE", ScanBench.NONE, -1);
    }

    private static void sizes() {
        List<Class<?>> all = new ArrayList<>(List.of(ScanBench.class.getDeclaredClasses()));
        all.add(ScanBench.class);
        no("classes: " + all.size(), all.size() > 12);
        for (Class<?> c : all) {
            int fields = 0;
            for (Field f : c.getDeclaredFields()) {
                boolean isStatic = Modifier.isStatic(f.getModifiers());
                fields += isStatic ? 0 : 1;
                no(f + " is static and changes", isStatic && !Modifier.isFinal(f.getModifiers()));
            }
            no(c + " has fields: " + fields, fields > 20);
            for (Method m : c.getDeclaredMethods()) {
                no(m + " takes too many", m.getParameterCount() > 7);
            }
        }
    }

    private static String withoutCommentsAndTexts(String source) {
        return source.replaceAll("(?s)/\\*.*?\\*/", "").replaceAll("//[^\n]*", "").replaceAll("\"[^\"\n]*\"", "\"\"");
    }

    private static void words(String code) {
        String[] ruledOut = {"throw", "throws", "try", "catch", "synchronized", "assert", "package", "var", "protected",
            "volatile", "transient", "native", "Object", "System.out", "Exception", "null"};
        for (String word : ruledOut) {
            no("the source has " + word, Pattern.compile("\\b" + Pattern.quote(word) + "\\b").matcher(code).find());
        }
        for (String sign : new String[] {"->", "::", "@", "Exact(", "\"\" +", "+ \"\""}) {
            no("the source has " + sign, code.contains(sign));
        }
        Matcher imports = Pattern.compile("import ([^;]*);").matcher(code);
        while (imports.find()) {
            no("import " + imports.group(1), !imports.group(1).equals("java.util.Arrays"));
        }
        String allowed = "System\\.arraycopy|Arrays\\.fill|Math\\.(min|max)|Integer\\.bitCount|Long\\.bitCount";
        Matcher calls = Pattern.compile("\\b(System|Arrays|Math|Integer|Long)\\.\\w+").matcher(code);
        while (calls.find()) {
            no("the library's " + calls.group(), !calls.group().matches(allowed));
        }
    }

    private static void methodLengths(String[] lines) {
        int start = -1;
        String indent = "";
        for (int i = 0; i < lines.length; i++) {
            Matcher head = Pattern.compile("^( {4}| {8})(?!private static final class)\\S.*\\) \\{$").matcher(lines[i]);
            if (start < 0 && head.find()) {
                start = i;
                indent = head.group(1);
            } else if (start >= 0 && lines[i].equals(indent + "}")) {
                no("a method of " + (i - start + 1) + " lines at " + (start + 1), i - start + 1 > 60);
                start = -1;
            }
            no("line " + (i + 1) + " is long", lines[i].length() > 125);
            // rows are made with the object that has them and used again: no call makes anything
            boolean isField = lines[i].matches("^ +(private |final |static )+\\S+ \\w+ = new .*;$");
            no("line " + (i + 1) + " makes something", lines[i].matches(".*\\bnew [A-Za-z].*[(\\[].*") && !isField
                && !lines[i].matches("^    private (Board|byte\\[\\]) \\w+ = new .*"));
        }
    }

    public static void main(String[] args) throws Exception {
        String source = Files.readString(Path.of("src/main/java/ScanBench.java"));
        for (int i = 0; i < source.length(); i++) {
            no("sign " + (int) source.charAt(i), source.charAt(i) > 126);
        }
        face();
        sizes();
        words(withoutCommentsAndTexts(source));
        methodLengths(source.split("\n"));
        Check.finish("LanguageTest");
    }
}
