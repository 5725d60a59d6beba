import java.lang.reflect.InvocationTargetException;
import java.lang.reflect.Method;
import java.util.ArrayList;
import java.util.Arrays;
import java.util.Comparator;
import java.util.List;

/** Runs the tests of a class: its static methods that take a Run, each with a Run of its own. */
final class Tests {
    private Tests() {
    }

    static List<Method> of(Class<?> tests) {
        List<Method> found = new ArrayList<>();
        for (Method m : tests.getDeclaredMethods()) {
            if (Arrays.equals(m.getParameterTypes(), new Class<?>[] {Run.class})) {
                found.add(m);
            }
        }
        found.sort(Comparator.comparing(Method::getName));
        return found;
    }

    /** Ends the program with 1, if an answer was wrong or something was thrown. */
    static void runAll(Class<?> tests) {
        int checks = 0;
        int failed = 0;
        List<Method> all = of(tests);
        for (Method m : all) {
            Run run = new Run(m.getName());
            boolean ended = ends(m, run);
            checks += run.checks();
            if (!ended || run.wrong() > 0 || run.checks() == 0) {
                failed++;
                System.out.println("FAILED: " + m.getName());
            }
        }
        System.out.println(tests.getName() + ": " + all.size() + " tests, " + checks + " checks, " + failed + " failed");
        if (failed > 0 || all.isEmpty()) {
            System.exit(1);
        }
    }

    private static boolean ends(Method test, Run run) {
        try {
            test.invoke(null, run);
            return true;
        } catch (InvocationTargetException e) {
            e.getCause().printStackTrace(System.out);
            return false;
        } catch (IllegalAccessException e) {
            throw new IllegalStateException(e);
        }
    }
}
