import java.lang.reflect.Method;
import java.util.Arrays;
import java.util.BitSet;
import java.util.List;
import java.util.Map;
import java.util.regex.Matcher;
import java.util.regex.Pattern;

/** Each promise has tests of its edges that are named after it, and each word of the document is held by some test. */
public final class EveryPromiseTest {
    private static final Checks C = new Checks();
    private static final Class<?>[] EDGES = {EdgesOfTreesTest.class, EdgesOfMessagesTest.class, EdgesOfBestTest.class,
        EdgesOfTextTest.class, EdgesOfSheetsTest.class, EdgesOfImagesTest.class};
    /** What says nothing of the answers: heads, signatures, and what the interface says (at which LanguageTest looks). */
    private static final Pattern[] ASIDE = {Pattern.compile("(?m)^## .*$"), Pattern.compile("(?m)^`[^`\n]*`: "),
        Pattern.compile("(?m)^Ahead of the calls .*$"), Pattern.compile("(?m)^```.*$"), Pattern.compile("(?m)^[123]\\. ")};

    public static void main(String[] args) throws Exception {
        for (int promise = 1; promise <= 37; promise++) {
            C.that("a test of the edges of promise " + promise, hasTests(promise));
        }
        everyWord(Edges.TERMS, TermsTest.class);
        for (int promise = 1; promise <= 37; promise++) {
            everyWord(promise, PromisesTest.class);
        }
        C.due("a promise 38", Edges.section(38).length(), 0);
        C.end();
    }

    private static boolean hasTests(int promise) {
        return Arrays.stream(EDGES).anyMatch(tests -> Edges.byPromise(tests).containsKey(promise));
    }

    /** That the tests of a class, taken together, quote all of a section. */
    private static void everyWord(int promise, Class<?> tests) throws Exception {
        String section = Edges.section(promise);
        C.that("a section of promise " + promise, !section.isEmpty());
        BitSet held = new BitSet();
        for (Pattern aside : ASIDE) {
            Matcher found = aside.matcher(section);
            while (found.find()) {
                held.set(found.start(), found.end());
            }
        }
        Map<Integer, List<Method>> all = Edges.byPromise(tests);
        for (Method test : all.getOrDefault(promise, List.of())) {
            for (String words : Edges.wordsOf(test)) {
                int at = section.indexOf(words);
                if (at >= 0) {
                    held.set(at, at + words.length());
                }
            }
        }
        StringBuilder left = new StringBuilder();
        for (int i = 0; i < section.length(); i++) {
            left.append(held.get(i) || Character.isWhitespace(section.charAt(i)) ? "" : section.charAt(i));
        }
        C.that("a test's quoting '" + left + "' of promise " + promise + " (0: the terms)", left.length() == 0);
    }
}
