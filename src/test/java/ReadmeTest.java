import java.lang.reflect.Method;
import java.lang.reflect.Modifier;
import java.nio.file.Files;
import java.nio.file.Path;
import java.util.TreeSet;
import java.util.regex.Matcher;
import java.util.regex.Pattern;

/** The calls that README.md shows answer what it says, and each method of the face is among them. */
public final class ReadmeTest {
    private static final Pattern CALL = Pattern.compile("nets\\.(\\w+)\\(([^)]*)\\);\\s*// (-?\\d+): .*");

    private static int wrong = 0;

    public static void main(String[] args) throws Exception {
        SpreadNets nets = new SpreadNets();
        TreeSet<String> unshown = faceMethods();
        for (String row : Files.readAllLines(Path.of("README.md"))) {
            if (!row.startsWith("nets.")) continue;
            Matcher call = CALL.matcher(row);
            if (!call.matches()) {
                fault("no call with its answer: " + row);
                continue;
            }
            long got = answer(nets, call.group(1), call.group(2));
            if (got != Long.parseLong(call.group(3))) fault(row + " answered " + got);
            unshown.remove(call.group(1));
        }
        if (!unshown.isEmpty()) fault("not shown: " + unshown);
        System.out.println(wrong == 0 ? "README.md is right" : wrong + " faults");
        if (wrong != 0) System.exit(1);
    }

    private static void fault(String what) {
        wrong++;
        System.out.println(what);
    }

    private static TreeSet<String> faceMethods() {
        TreeSet<String> names = new TreeSet<>();
        for (Method m : SpreadNets.class.getDeclaredMethods()) {
            if (Modifier.isPublic(m.getModifiers())) names.add(m.getName());
        }
        return names;
    }

    private static long answer(SpreadNets nets, String name, String list) throws Exception {
        String[] told = list.isEmpty() ? new String[0] : list.split(", ");
        for (Method m : SpreadNets.class.getDeclaredMethods()) {
            if (!m.getName().equals(name) || !Modifier.isPublic(m.getModifiers())) continue;
            Class<?>[] types = m.getParameterTypes();
            if (types.length != told.length) throw new IllegalArgumentException(name + "(" + list + ")");
            Object[] values = new Object[told.length];
            for (int i = 0; i < told.length; i++) values[i] = value(types[i], told[i]);
            return ((Number) m.invoke(nets, values)).longValue();
        }
        throw new IllegalArgumentException("no method " + name);
    }

    private static Object value(Class<?> type, String told) {
        if (type == boolean.class) return Boolean.valueOf(told);
        if (type == long.class) return Long.valueOf(told);
        return Integer.valueOf(told);
    }
}
