import java.io.IOException;
import java.lang.reflect.InvocationTargetException;
import java.lang.reflect.Method;
import java.nio.file.Files;
import java.nio.file.Path;
import java.util.ArrayList;
import java.util.Comparator;
import java.util.List;

/** Runs all methods of a test that name a sentence of the document, each as a test of its own. */
final class HelperEdges {
    private static final Path DOCUMENT = Path.of("../shared/DOC.md");
    private static final int PROMISES = 36;

    private HelperEdges() {
    }

    /** The test must name a sentence of each promise from the one number to the other. */
    static void run(Class<?> test, int from, int to) throws Exception {
        List<Method> methods = new ArrayList<>();
        for (Method method : test.getDeclaredMethods()) {
            if (method.isAnnotationPresent(HelperPromise.class)) {
                methods.add(method);
            }
        }
        methods.sort(Comparator.comparing((Method m) -> promise(m).value()).thenComparing(Method::getName));
        boolean[] named = new boolean[PROMISES + 1];
        for (Method method : methods) {
            named[promise(method).value()] = true;
            runOne(method);
        }
        HelperCheck.about("");
        for (int number = from; number <= to; number++) {
            HelperCheck.holds("a sentence of promise " + number + " is named", named[number]);
        }
        HelperCheck.finish(test.getName() + ", " + methods.size() + " sentences");
    }

    private static HelperPromise promise(Method method) {
        return method.getAnnotation(HelperPromise.class);
    }

    private static void runOne(Method method) throws Exception {
        HelperPromise promise = promise(method);
        HelperCheck.about("promise " + promise.value() + ", \"" + promise.says() + "\", " + method.getName() + ": ");
        HelperCheck.holds("the sentence stands there", stands(promise));
        int before = HelperCheck.made();
        method.setAccessible(true);
        try {
            method.invoke(null);
        } catch (InvocationTargetException e) {
            HelperCheck.holds("it threw " + e.getCause(), false);
        }
        HelperCheck.holds("it looks at something", HelperCheck.made() > before);
    }

    private static boolean stands(HelperPromise promise) throws IOException {
        String text = Files.readString(DOCUMENT);
        String head = "## Promise ";
        int start = promise.value() == 0 ? 0 : text.indexOf(head + promise.value() + ":");
        int end = text.indexOf(promise.value() == PROMISES ? "## Not promised" : head + (promise.value() + 1) + ":");
        return start >= 0 && end > start && text.substring(start, end).contains(promise.says());
    }
}
