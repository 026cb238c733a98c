import java.util.Set;
import java.util.TreeSet;

/** Each of the promises has tests of its edges that are named after it. */
public final class EveryPromiseTest {
    public static void main(String[] args) {
        Checks checks = new Checks();
        Class<?>[] classes = {EdgesOfTreesTest.class, EdgesOfMessagesTest.class, EdgesOfBestTest.class,
            EdgesOfTextTest.class, EdgesOfSheetsTest.class, EdgesOfImagesTest.class};
        Set<Integer> found = new TreeSet<>();
        for (Class<?> tests : classes) {
            found.addAll(Edges.byPromise(tests).keySet());
        }
        for (int promise = 1; promise <= 37; promise++) {
            checks.that("a test of promise " + promise, found.contains(promise));
        }
        checks.due("promises with tests", found.size(), 37);
        checks.end();
    }
}
