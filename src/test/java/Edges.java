import java.lang.reflect.InvocationTargetException;
import java.lang.reflect.Method;
import java.util.ArrayList;
import java.util.Comparator;
import java.util.List;

/** Runs the tests of a class: its methods that take a Run, each named after its promise, or after the terms. */
final class Edges {
    private Edges() {
    }

    static List<Method> testsOf(Class<?> tests) {
        List<Method> all = new ArrayList<>();
        for (Method method : tests.getDeclaredMethods()) {
            if (method.getParameterCount() == 1 && method.getParameterTypes()[0] == Run.class
                && (method.getName().startsWith("promise") || method.getName().startsWith("terms"))) {
                all.add(method);
            }
        }
        all.sort(Comparator.comparingInt((Method m) -> promiseOf(m)).thenComparing(Method::getName));
        return all;
    }

    /** The number behind 'promise', or 0 for what is named after the terms. */
    static int promiseOf(Method test) {
        String name = test.getName();
        return name.startsWith("promise") ? Integer.parseInt(name.substring("promise".length(), name.indexOf('_'))) : 0;
    }

    static void run(Class<?> tests) throws IllegalAccessException {
        int passed = 0;
        int failed = 0;
        for (Method test : testsOf(tests)) {
            List<String> faults = faultsOf(test);
            faults.forEach(System.out::println);
            if (faults.isEmpty()) {
                passed++;
            } else {
                failed++;
            }
        }
        System.out.println(tests.getName() + ": " + passed + " passed, " + failed + " failed");
        System.exit(failed == 0 && passed > 0 ? 0 : 1);
    }

    private static List<String> faultsOf(Method test) throws IllegalAccessException {
        Run run = new Run(test.getName());
        try {
            test.invoke(null, run);
        } catch (InvocationTargetException e) {
            e.getCause().printStackTrace(System.out);
            run.faults().add(test.getName() + " ended early: " + e.getCause());
        }
        return run.faults();
    }
}
