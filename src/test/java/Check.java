import java.lang.reflect.InvocationTargetException;
import java.lang.reflect.Method;
import java.util.Arrays;
import java.util.Comparator;

/**
 * Runs the cases of a test class, and prints every answer that is not the one that is due. A case
 * is a static method whose name begins with what it is about (such as promise02, terms or readme),
 * then tells the case.
 */
final class Check {
    private static String running = "";
    private static int wrong;

    private Check() {
    }

    static void due(String call, long got, long want) {
        if (got != want) {
            fail(call + " answered " + got + ", due is " + want);
        }
    }

    static void due(String call, boolean got, boolean want) {
        if (got != want) {
            fail(call + " answered " + got + ", due is " + want);
        }
    }

    static void due(String call, String got, String want) {
        if (!got.equals(want)) {
            fail(call + " is\n  " + got + "\ndue is\n  " + want);
        }
    }

    static void fail(String what) {
        wrong++;
        System.out.println(running + ": " + what);
    }

    /** Runs every case of a test class; the exit code tells CI whether all of them passed. */
    static void run(Class<?> test) {
        Method[] methods = test.getDeclaredMethods();
        Arrays.sort(methods, Comparator.comparing(Method::getName));
        int cases = 0;
        int failed = 0;
        for (Method method : methods) {
            if (isCase(method)) {
                cases++;
                failed += passes(method) ? 0 : 1;
            }
        }
        System.out.println(cases + " cases, " + failed + " failed");
        if (failed > 0 || cases == 0) {
            System.exit(1);
        }
    }

    private static boolean isCase(Method method) {
        String name = method.getName();
        return name.matches("(promise[0-9]{2}|terms|face|language|readme|model)_.*");
    }

    private static boolean passes(Method method) {
        running = method.getName();
        int before = wrong;
        try {
            method.invoke(null);
        } catch (InvocationTargetException e) {
            fail("threw " + e.getCause());
        } catch (IllegalAccessException e) {
            fail("can't be run: " + e);
        }
        return wrong == before;
    }
}
