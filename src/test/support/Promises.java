import java.lang.reflect.InvocationTargetException;
import java.lang.reflect.Method;
import java.util.Arrays;
import java.util.Comparator;

/** Runs every test of a class: each method whose name is p, the two digits of its promise, and what it tests. */
final class Promises {
    private Promises() {
    }

    /** Fails, too, if one of the promises from the first to the last has no test. */
    static void test(Class<?> tests, int first, int last) throws IllegalAccessException {
        boolean[] tested = new boolean[100];
        Method[] methods = tests.getDeclaredMethods();
        Arrays.sort(methods, Comparator.comparing(Method::getName));
        for (Method method : methods) {
            if (method.getName().matches("p\\d\\d[A-Z].*")) {
                tested[Integer.parseInt(method.getName().substring(1, 3))] = true;
                run(method);
            }
        }
        Check.inTest("");
        for (int promise = first; promise <= last; promise++) {
            Check.due("P" + promise + " has a test", tested[promise], true);
        }
        Check.end();
    }

    private static void run(Method test) throws IllegalAccessException {
        Check.inTest(test.getName() + ": ");
        test.setAccessible(true);
        try {
            test.invoke(null);
        } catch (InvocationTargetException thrown) {
            Check.report("ended with " + thrown.getCause());
        }
    }
}
