import java.lang.reflect.Method;
import java.util.ArrayList;
import java.util.List;

/** Tests of the cases at the bounds: each is a method that is named by its promise, and looks at one sentence. */
final class Bounds {
    private Bounds() {
    }

    /** The tests of a class, by their names. */
    static List<Method> of(Class<?> tests) {
        List<Method> got = new ArrayList<>();
        for (Method method : tests.getDeclaredMethods()) {
            if (method.getName().matches("promise\\d\\d_\\w+")) {
                got.add(method);
            }
        }
        got.sort((a, b) -> a.getName().compareTo(b.getName()));
        return got;
    }

    static void run(Class<?> tests) throws ReflectiveOperationException {
        for (Method method : of(tests)) {
            Check.in(method.getName());
            int before = Check.looked();
            method.setAccessible(true);
            method.invoke(null);
            Check.that("it looks at an answer", Check.looked() > before);
        }
        Check.end(tests.getSimpleName());
    }
}
