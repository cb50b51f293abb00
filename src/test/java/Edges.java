import java.lang.reflect.InvocationTargetException;
import java.lang.reflect.Method;
import java.util.TreeMap;

/** Makes all tests of a class whose names begin with the number of a promise, as promise07.. does. */
final class Edges {
    private static final String PREFIX = "promise";

    private Edges() {
    }

    static void run(Class<?> tests, int first, int last) {
        TreeMap<String, Method> all = new TreeMap<>();
        for (Method method : tests.getDeclaredMethods()) {
            if (method.getName().startsWith(PREFIX)) {
                all.put(method.getName(), method);
            }
        }
        int[] many = new int[last + 1];
        for (Method method : all.values()) {
            many[Integer.parseInt(method.getName().substring(PREFIX.length(), PREFIX.length() + 2))]++;
            make(method);
        }
        Check.within("");
        for (int promise = first; promise <= last; promise++) {
            Check.due("promise " + promise + " has tests", many[promise] > 0, true);
        }
        System.out.println(all.size() + " edges");
        Check.end();
    }

    private static void make(Method method) {
        Check.within(method.getName());
        try {
            method.setAccessible(true);
            method.invoke(null);
        } catch (InvocationTargetException e) {
            e.getCause().printStackTrace(System.out);
            Check.due("what it threw", 1, 0);
        } catch (IllegalAccessException e) {
            throw new IllegalStateException(e);
        }
    }
}
