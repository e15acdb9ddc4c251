import java.lang.reflect.InvocationTargetException;
import java.lang.reflect.Method;
import java.lang.reflect.Modifier;
import java.util.Map;
import java.util.TreeMap;

/** Runs the tests of a class, one after the other, and tells those with a wrong answer by name. */
final class Check {
    private static String running = "";
    private static int wrong = 0;

    private Check() {
    }

    static void due(String call, long want, long got) {
        if (got != want) {
            wrong++;
            System.out.println(running + ": " + call + " answered " + got + ", due is " + want);
        }
    }

    static void due(String call, boolean want, boolean got) {
        if (got != want) {
            wrong++;
            System.out.println(running + ": " + call + " answered " + got + ", due is " + want);
        }
    }

    /** A test is a static method that is not private, takes nothing and gives nothing. */
    static void run(Class<?> tests) {
        Map<String, Method> byName = new TreeMap<>();
        for (Method m : tests.getDeclaredMethods()) {
            if (Modifier.isStatic(m.getModifiers()) && !Modifier.isPrivate(m.getModifiers())
                    && m.getParameterCount() == 0 && m.getReturnType() == void.class) {
                byName.put(m.getName(), m);
            }
        }
        int failed = 0;
        for (Method m : byName.values()) {
            failed += passes(tests.getSimpleName(), m) ? 0 : 1;
        }
        System.out.println(tests.getSimpleName() + ": " + byName.size() + " tests, " + failed + " failed");
        if (failed != 0 || byName.isEmpty()) {
            System.exit(1);
        }
    }

    private static boolean passes(String ofClass, Method test) {
        running = ofClass + "." + test.getName();
        int before = wrong;
        try {
            test.invoke(null);
        } catch (InvocationTargetException e) {
            System.out.println(running + " threw " + e.getCause());
            return false;
        } catch (IllegalAccessException e) {
            System.out.println(running + " can't be called: " + e);
            return false;
        }
        return wrong == before;
    }
}
