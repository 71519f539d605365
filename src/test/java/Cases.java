import java.io.IOException;
import java.lang.reflect.InvocationTargetException;
import java.lang.reflect.Method;
import java.nio.file.Files;
import java.nio.file.Path;
import java.util.ArrayList;
import java.util.Comparator;
import java.util.List;

/** Runs the tests that are marked by Says, each one by itself and under its own name. */
final class Cases {
    private Cases() {
    }

    static List<Method> of(Class<?> tests) {
        List<Method> all = new ArrayList<>();
        for (Method method : tests.getDeclaredMethods()) {
            if (method.isAnnotationPresent(Says.class)) {
                all.add(method);
            }
        }
        all.sort(Comparator.comparingInt(Cases::promiseOf).thenComparing(Method::getName));
        return all;
    }

    static int promiseOf(Method test) {
        return test.getAnnotation(Says.class).promise();
    }

    static void run(Class<?> tests) throws IOException, IllegalAccessException {
        String doc = Files.readString(Path.of("../shared/DOC.md"));
        List<Method> all = of(tests);
        for (Method test : all) {
            Due.begin("promise " + promiseOf(test) + ", " + test.getName());
            Due.is("the document says it", says(doc, test.getAnnotation(Says.class)), true);
            int before = Due.asked();
            runOne(test);
            Due.is("the test asks something", Due.asked() > before, true);
        }
        System.out.println(all.size() + " boundary cases");
        Due.finish();
    }

    private static void runOne(Method test) throws IllegalAccessException {
        try {
            test.invoke(null);
        } catch (InvocationTargetException e) {
            Due.is("no call throws; here " + e.getCause(), false, true);
        }
    }

    /** Whether the words stand in what all promises share or in the one promise. */
    private static boolean says(String doc, Says said) {
        int promises = doc.indexOf("## Promise 1:");
        int own = doc.indexOf("## Promise " + said.promise() + ":");
        int end = doc.indexOf("\n## ", own + 1);
        return promises > 0 && own > 0 && end > 0
            && (doc.substring(0, promises).contains(said.words()) || doc.substring(own, end).contains(said.words()));
    }
}
