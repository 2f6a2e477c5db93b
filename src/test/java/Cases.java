import java.lang.reflect.Constructor;
import java.lang.reflect.InvocationTargetException;
import java.lang.reflect.Method;
import java.util.ArrayList;
import java.util.Comparator;
import java.util.List;

/** Runs the tests of a class, each on a new object: its methods promise<number>_<case>. */
final class Cases {
    private Cases() {
    }

    static List<Method> of(Class<? extends Scene> tests) {
        List<Method> all = new ArrayList<>();
        for (Method method : tests.getDeclaredMethods()) {
            if (method.getName().matches("promise\\d+_\\w+")) {
                all.add(method);
            }
        }
        all.sort(Comparator.comparingInt(Cases::promise).thenComparing(Method::getName));
        return all;
    }

    static int promise(Method method) {
        String name = method.getName();
        return Integer.parseInt(name.substring("promise".length(), name.indexOf('_')));
    }

    /** Each of the promises first .. last has tests there, and no other one. */
    static void run(Class<? extends Scene> tests, int first, int last) {
        boolean[] seen = new boolean[last + 1];
        List<Method> all = of(tests);
        for (Method method : all) {
            int promise = promise(method);
            Due.holds(method.getName() + " stands in its file", promise >= first && promise <= last);
            seen[Math.max(0, Math.min(last, promise))] = true;
            runOne(tests, method);
        }
        for (int promise = first; promise <= last; promise++) {
            Due.holds("promise " + promise + " has tests", seen[promise]);
        }
        Due.end(tests.getName() + ": " + all.size() + " tests");
    }

    private static void runOne(Class<? extends Scene> tests, Method method) {
        int before = Due.asked();
        try {
            Constructor<? extends Scene> maker = tests.getDeclaredConstructor();
            maker.setAccessible(true);
            method.setAccessible(true);
            method.invoke(maker.newInstance());
        } catch (InvocationTargetException e) {
            Due.holds(method.getName() + " threw " + e.getCause(), false);
        } catch (ReflectiveOperationException e) {
            Due.holds(method.getName() + " can't be run: " + e, false);
        }
        Due.holds(method.getName() + " asks something", Due.asked() > before);
    }
}
