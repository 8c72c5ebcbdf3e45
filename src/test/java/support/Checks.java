import java.lang.reflect.InvocationTargetException;
import java.lang.reflect.Method;
import java.lang.reflect.Modifier;
import java.util.HashSet;
import java.util.Map;
import java.util.Set;
import java.util.TreeMap;

/** Runs the tests of a class and counts the answers that are not as due. */
final class Checks {
    private static final Set<String> TOLD = new HashSet<>();
    private static String test = "";

    private Checks() {
    }

    /** Every static method of the class without parameters is a test, so that none can be forgotten. */
    static void runAll(Class<?> tests) {
        Map<String, Method> found = new TreeMap<>();
        for (Method m : tests.getDeclaredMethods()) {
            if (Modifier.isStatic(m.getModifiers()) && m.getParameterCount() == 0 && !m.isSynthetic()) {
                found.put(m.getName(), m);
            }
        }
        for (Method m : found.values()) {
            test = tests.getSimpleName() + "." + m.getName();
            run(m);
        }
        System.out.println(tests.getSimpleName() + ": " + found.size() + " tests, " + TOLD.size() + " answers not as due");
        if (!TOLD.isEmpty() || found.isEmpty()) {
            System.exit(1);
        }
    }

    private static void run(Method m) {
        try {
            m.setAccessible(true);
            m.invoke(null);
        } catch (InvocationTargetException e) {
            wrong("threw " + e.getCause());
        } catch (IllegalAccessException e) {
            wrong("can't be run: " + e);
        }
    }

    static void due(String call, long got, long want) {
        if (got != want) {
            wrong(call + " answered " + got + ", due is " + want);
        }
    }

    /** The same of the same test is told once. */
    static void wrong(String what) {
        String line = test + ": " + what;
        if (TOLD.add(line)) System.out.println(line);
    }
}
