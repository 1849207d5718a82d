import java.lang.reflect.InvocationTargetException;
import java.lang.reflect.Method;
import java.lang.reflect.Modifier;
import java.util.Map;
import java.util.TreeMap;

/** Runs each test of an edge by its name, and asks that every promise and the terms have some. */
final class EdgesTest {
    private static final int PROMISES = 31;
    private static final Class<?>[] CLASSES = {TermsEdges.class, DividingEdges.class, ReasonsEdges.class,
        UnitsEdges.class, CostsEdges.class, MotionsEdges.class, TextsEdges.class, StateEdges.class};

    public static void main(String[] args) {
        Map<String, Method> tests = findTests();
        for (Map.Entry<String, Method> test : tests.entrySet()) {
            run(test.getKey(), test.getValue());
        }
        Check.begin("all promises");
        for (int promise = 1; promise <= PROMISES; promise++) {
            String start = String.format("promise%02d_", promise);
            if (tests.keySet().stream().noneMatch(name -> name.startsWith(start))) {
                Check.report("no edge of promise " + promise + " is tested");
            }
        }
        System.out.println(tests.size() + " edges tested");
        Check.end();
    }

    private static Map<String, Method> findTests() {
        Map<String, Method> tests = new TreeMap<>();
        for (Class<?> edges : CLASSES) {
            for (Method method : edges.getDeclaredMethods()) {
                boolean isTest = method.getName().matches("(promise|terms).*_.*");
                if (isTest && (!Modifier.isStatic(method.getModifiers()) || method.getParameterCount() != 0)) {
                    throw new AssertionError(method + " bears a test's name, but cannot be run as one");
                }
                if (isTest && tests.put(method.getName(), method) != null) {
                    throw new AssertionError("two tests are named " + method.getName());
                }
            }
        }
        return tests;
    }

    private static void run(String name, Method test) {
        Check.begin(name);
        try {
            test.invoke(null);
        } catch (InvocationTargetException e) {
            throw new AssertionError(name, e.getCause());
        } catch (IllegalAccessException e) {
            throw new AssertionError(name, e);
        }
    }
}
