import java.io.File;
import java.lang.reflect.InvocationTargetException;
import java.lang.reflect.Method;
import java.util.ArrayList;
import java.util.Comparator;
import java.util.List;

/**
 * The document's boundary cases. Each has a test of its own in one of the Bounds classes: a static method named after the
 * promise (p01 to p49, or terms) and its sentence, which gets a new run.
 */
public final class BoundsTest {
    private static final Class<?>[] ALL = {TermsBounds.class, SheetsBounds.class, SeenBounds.class, WantedBounds.class,
        OrdersBounds.class, SignsBounds.class, TextsBounds.class, RowsBounds.class, ImagesBounds.class};
    private static final int PROMISES = 49;

    public static void main(String[] args) {
        Check check = new Check();
        int[] tests = new int[PROMISES + 1];
        for (Class<?> one : ALL) {
            for (Method method : testsOf(one)) {
                tests[promiseOf(method)]++;
                ask(method, check);
            }
        }
        for (int promise = 0; promise <= PROMISES; promise++) {
            check.due("promise " + promise + " (0: the terms) has a test", tests[promise] > 0 ? 1 : 0, 1);
        }
        String[] files = new File("src/test/java").list((folder, name) -> name.endsWith("Bounds.java"));
        check.due("Bounds classes that are run, of those that there are", ALL.length, files == null ? -1 : files.length);
        check.end();
    }

    private static List<Method> testsOf(Class<?> one) {
        List<Method> all = new ArrayList<>();
        for (Method method : one.getDeclaredMethods()) {
            if (method.getName().contains("__")) {
                all.add(method);
            }
        }
        all.sort(Comparator.comparing(Method::getName));
        return all;
    }

    private static int promiseOf(Method method) {
        String name = method.getName();
        return name.startsWith("terms_") ? 0 : Integer.parseInt(name.substring(1, 3));
    }

    private static void ask(Method method, Check check) {
        try {
            method.invoke(null, new Run(method.getName(), check));
        } catch (InvocationTargetException | IllegalAccessException e) {
            check.due(method.getName() + ": " + e.getCause() + ": thrown", 1, 0);
        }
    }
}
