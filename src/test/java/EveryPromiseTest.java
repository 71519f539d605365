import java.lang.reflect.Method;
import java.util.HashSet;
import java.util.List;
import java.util.Set;

/** That each promise has named boundary cases, and that no two of them bear one name. */
public final class EveryPromiseTest {
    private static final int PROMISES = 46;
    private static final List<Class<?>> EDGES = List.of(EdgesOfStockTest.class, EdgesOfDoingsTest.class,
        EdgesOfTextsTest.class, EdgesOfAskingTest.class, EdgesOfThoughtTest.class, EdgesOfRiddlesTest.class,
        EdgesOfPastTest.class);

    private EveryPromiseTest() {
    }

    public static void main(String[] args) {
        int[] cases = new int[PROMISES + 1];
        Set<String> names = new HashSet<>();
        for (Class<?> tests : EDGES) {
            for (Method test : Cases.of(tests)) {
                cases[Cases.promiseOf(test)]++;
                Due.is("a name of its own: " + test.getName(), names.add(promiseAndName(test)), true);
            }
        }
        for (int promise = 1; promise <= PROMISES; promise++) {
            Due.is("promise " + promise + " has boundary cases", cases[promise] > 0, true);
        }
        Due.finish();
    }

    private static String promiseAndName(Method test) {
        return Cases.promiseOf(test) + " " + test.getName();
    }
}
