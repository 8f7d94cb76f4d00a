import java.lang.reflect.Constructor;
import java.lang.reflect.Field;
import java.lang.reflect.Method;
import java.lang.reflect.Modifier;
import java.nio.file.Files;
import java.nio.file.Path;
import java.util.ArrayList;
import java.util.Arrays;
import java.util.List;
import java.util.TreeSet;
import java.util.regex.Matcher;
import java.util.regex.Pattern;

/** The face is that of the document and no wider, and the source keeps to the rules that can be looked up. */
public final class FaceTest {
    private static final String[] METHODS = {
        "int net(int,int)", "int line(int,int,int,boolean)", "int ring(int,int,int)",
        "int product(int,int,int)", "int turned(int,int)", "int about(int,int)", "int near(int,int)",
        "int number(int,int,int)", "int growth(int,boolean,int)", "int more(int,int,int)",
        "int just(int,int,int)", "int second(int)", "int span(int,int)", "int best(int)",
        "long walks(int,int,int,int)", "long uneven(int,int,int)", "int apart(int,int,int)",
        "int distance(int,int,int)", "int round(int)", "int odd(int,long)", "long flipped(int,long)",
        "long digest()"
    };
    private static final String[] CONSTANTS = {"int NONE", "int BAD", "int NO"};
    private static final String FORBIDDEN =
        "\\b(throw|throws|try|catch|synchronized|assert|hashCode|toString|Exact|System\\.(?!arraycopy)|Random|Thread)\\b|->|::";

    private static int wrong = 0;

    public static void main(String[] args) throws Exception {
        int kind = SpreadNets.class.getModifiers();
        check(Modifier.isPublic(kind) && Modifier.isFinal(kind), "the class is public and final");
        checkMethods();
        checkFields();
        checkConstructors();
        checkNested();
        checkParameters();
        checkSource();
        System.out.println(wrong == 0 ? "the face is as told" : wrong + " faults");
        if (wrong != 0) System.exit(1);
    }

    private static void check(boolean good, String what) {
        if (!good) {
            wrong++;
            System.out.println("not so: " + what);
        }
    }

    private static void checkMethods() {
        TreeSet<String> seen = new TreeSet<>();
        TreeSet<String> publicNames = new TreeSet<>();
        List<String> privateNames = new ArrayList<>();
        for (Method m : SpreadNets.class.getDeclaredMethods()) {
            if (m.isSynthetic()) continue;
            if (Modifier.isPrivate(m.getModifiers())) {
                privateNames.add(m.getName());
                continue;
            }
            check(Modifier.isPublic(m.getModifiers()), m + " is public or private");
            StringBuilder text = new StringBuilder();
            for (Class<?> type : m.getParameterTypes()) {
                text.append(text.length() == 0 ? "" : ",").append(type.getName());
            }
            seen.add(m.getReturnType().getName() + " " + m.getName() + "(" + text + ")");
            publicNames.add(m.getName());
        }
        check(seen.equals(new TreeSet<>(Arrays.asList(METHODS))), "the methods are the document's: " + seen);
        for (Class<?> inside : SpreadNets.class.getDeclaredClasses()) {
            for (Method m : inside.getDeclaredMethods()) {
                if (Modifier.isPrivate(m.getModifiers())) privateNames.add(m.getName());
            }
        }
        for (String name : privateNames) {
            check(!publicNames.contains(name), "no private method is called " + name);
        }
    }

    private static void checkFields() {
        TreeSet<String> seen = new TreeSet<>();
        for (Field f : SpreadNets.class.getDeclaredFields()) {
            int kind = f.getModifiers();
            if (Modifier.isStatic(kind)) check(Modifier.isFinal(kind), f + " is final");
            if (Modifier.isPrivate(kind)) continue;
            check(Modifier.isPublic(kind) && Modifier.isStatic(kind), f + " is a constant");
            seen.add(f.getType().getName() + " " + f.getName());
        }
        check(seen.equals(new TreeSet<>(Arrays.asList(CONSTANTS))), "the constants are the document's: " + seen);
    }

    private static void checkConstructors() {
        Constructor<?>[] all = SpreadNets.class.getDeclaredConstructors();
        check(all.length == 1 && Modifier.isPublic(all[0].getModifiers()) && all[0].getParameterCount() == 0,
            "there is one constructor, public, without arguments");
    }

    private static void checkNested() {
        Class<?>[] inside = SpreadNets.class.getDeclaredClasses();
        check(inside.length + 1 <= 12, "at most twelve classes");
        for (Class<?> c : inside) {
            check(Modifier.isStatic(c.getModifiers()), c + " is static");
            check(c.getDeclaredFields().length <= 20, c + " has few fields");
        }
    }

    private static void checkParameters() {
        List<Class<?>> classes = new ArrayList<>(Arrays.asList(SpreadNets.class.getDeclaredClasses()));
        classes.add(SpreadNets.class);
        for (Class<?> c : classes) {
            for (Method m : c.getDeclaredMethods()) check(m.getParameterCount() <= 7, m + " has at most seven parameters");
        }
    }

    private static void checkSource() throws Exception {
        String source = Files.readString(Path.of("src/main/java/SpreadNets.java"));
        String code = source.replaceAll("(?s)/\\*.*?\\*/", "").replaceAll("//[^\n]*", "");
        Matcher found = Pattern.compile(FORBIDDEN).matcher(code);
        while (found.find()) check(false, "the source is without '" + found.group() + "'");
        Matcher imports = Pattern.compile("import ([^;]*);").matcher(code);
        while (imports.find()) check(imports.group(1).equals("java.util.Arrays"), "no import of " + imports.group(1));
        checkRows(code.split("\n"));
    }

    /** Methods are short, and objects are made by fields and by the constructor, so that calls take no room. */
    private static void checkRows(String[] rows) {
        String head = "";
        String indent = "";
        int began = 0;
        for (int i = 0; i < rows.length; i++) {
            String row = rows[i];
            if (head.isEmpty() && row.matches(" +[^=]*\\) \\{")) {
                head = row.trim();
                indent = row.substring(0, row.length() - row.stripLeading().length());
                began = i;
            }
            if (row.contains("new ")) {
                check(head.isEmpty() || head.startsWith("public SpreadNets()"), "a call makes no object: " + row.trim());
            }
            if (!head.isEmpty() && row.equals(indent + "}")) {
                check(i - began < 60, head + " is short");
                head = "";
            }
        }
        check(head.isEmpty(), "each method ends: " + head);
    }
}
