import java.lang.annotation.Retention;
import java.lang.annotation.RetentionPolicy;
import java.lang.reflect.InvocationTargetException;
import java.lang.reflect.Method;
import java.nio.file.Files;
import java.nio.file.Path;
import java.util.ArrayList;
import java.util.Arrays;
import java.util.Comparator;
import java.util.LinkedHashMap;
import java.util.List;
import java.util.Map;
import java.util.Set;
import java.util.TreeMap;
import java.util.TreeSet;
import java.util.regex.Matcher;
import java.util.regex.Pattern;

/**
 * What the tests share that go by the document's words. A test is a static method named after its promise (promise11..)
 * or after the terms (terms..), with the words of the document that it holds.
 */
class Edges {
    /** The words that a test holds: they stand in its promise's section of the document, or in the terms. */
    @Retention(RetentionPolicy.RUNTIME)
    @interface Says {
        String[] value();
    }

    /** Tests of the terms come ahead of those of promise 1. */
    static final int TERMS = 0;

    interface Act {
        long said(AvenueNods x);
    }

    interface State {
        AvenueNods made();
    }

    static final int BEYOND = Checks.BEYOND;
    static final int FULL = Checks.FULL;
    static final int KIND = Checks.KIND;
    static final int NONE = Checks.NONE;
    static final int STATE = Checks.STATE;
    static final int MISSING = Checks.MISSING;
    static final int SIZE = Checks.SIZE;

    static final int LIME = 0;
    static final int ELM = 1;
    static final int SAPLING = 2;
    static final int STUMP = 3;
    static final int OAK = 4;
    static final int GRAFT = 5;

    private static final String[] FINDINGS = {"BEYOND", "FULL", "KIND", "NONE", "STATE", "MISSING", "SIZE"};
    private static final Pattern NAME = Pattern.compile("(?:terms|promise(\\d+))[A-Z].*");
    private static final Path DOCUMENT = Path.of("../shared/DOC.md");
    private static final Checks C = new Checks();
    /** Which findings were met by the tests of the promise that is under way. */
    private static final Set<String> MET = new TreeSet<>();

    // ---- how the tests of a class are run

    static void runAll(Class<?> tests) throws Exception {
        for (Map.Entry<Integer, List<Method>> promise : byPromise(tests).entrySet()) {
            String section = section(promise.getKey());
            MET.clear();
            for (Method test : promise.getValue()) {
                C.about(test.getName());
                C.that("the words that it holds are told", wordsOf(test).length > 0);
                for (String words : wordsOf(test)) {
                    C.that("the document's having '" + words + "'",
                        section.contains(words) || section(TERMS).contains(words));
                }
                run(test);
            }
            C.about("promise " + promise.getKey());
            for (String finding : namedIn(section)) {
                C.that("a test's meeting " + finding, MET.contains(finding));
            }
        }
        C.end();
    }

    static String[] wordsOf(Method test) {
        Says says = test.getAnnotation(Says.class);
        return says == null ? new String[0] : says.value();
    }

    static Map<Integer, List<Method>> byPromise(Class<?> tests) {
        Map<Integer, List<Method>> found = new TreeMap<>();
        Method[] all = tests.getDeclaredMethods();
        Arrays.sort(all, Comparator.comparing(Method::getName));
        for (Method test : all) {
            Matcher name = NAME.matcher(test.getName());
            if (name.matches()) {
                int promise = name.group(1) == null ? TERMS : Integer.parseInt(name.group(1));
                found.computeIfAbsent(promise, n -> new ArrayList<>()).add(test);
            }
        }
        return found;
    }

    private static void run(Method test) throws Exception {
        try {
            test.invoke(null);
        } catch (InvocationTargetException e) {
            e.getCause().printStackTrace(System.out);
            C.that("its coming to its end", false);
        }
    }

    /** The section of the document that tells a promise, or the terms. */
    static String section(int promise) throws Exception {
        String document = Files.readString(DOCUMENT);
        int from = document.indexOf(promise == TERMS ? "## Terms" : "## Promise " + promise + ":");
        if (from < 0) {
            return "";
        }
        int to = document.indexOf("\n## ", from);
        return document.substring(from, to < 0 ? document.length() : to);
    }

    /** The findings that a promise names: each begins a sentence there. */
    private static Set<String> namedIn(String section) {
        Set<String> named = new TreeSet<>();
        Matcher finding = Pattern.compile("[.] (" + String.join("|", FINDINGS) + ")(?=[.:]| \\()").matcher(section);
        while (finding.find()) {
            named.add(finding.group(1));
        }
        return named;
    }

    // ---- what a test may say

    static void due(String call, long got, long want) {
        C.due(call, got, want);
    }

    /** Wrong values on both sides of a range: the nearest, the farthest, and one that is right in its lowest bits. */
    static int[] outside(int least, int most) {
        return new int[] {least - 1, most + 1, least + 65536, Integer.MIN_VALUE, Integer.MAX_VALUE};
    }

    /** A call that is refused, whatever there is: nothing, something, as much as can be. */
    static void refused(String call, Act act, int finding) {
        refusedIn(AvenueNods::new, call + " of nothing", act, finding);
        refusedIn(Edges::some, call + " of something", act, finding);
        refusedIn(Edges::most, call + " of all", act, finding);
    }

    /** A refused call: its answer, that it is counted once as that, and that it changes nothing else. */
    static void refusedIn(State state, String call, Act act, int finding) {
        int which = BEYOND - finding;
        MET.add(FINDINGS[which]);
        AvenueNods x = state.made();
        C.due(call, act.said(x), finding);
        Map<String, Long> want = whole(state.made());
        want.merge("status(-1)", 1L, Long::sum);
        want.merge("status(" + which + ")", 1L, Long::sum);
        same(call, whole(x), want);
        sheetsStay(state, call, act);
    }

    /** A call that is answered, and changes nothing. */
    static void asked(State state, String call, Act act, long answer) {
        AvenueNods x = state.made();
        C.due(call, act.said(x), answer);
        same(call, whole(x), whole(state.made()));
        sheetsStay(state, call, act);
    }

    /** Asked of an object of its own, since whole() leaves too few of the 512 calls for all numbers of all sheets. */
    private static void sheetsStay(State state, String call, Act act) {
        AvenueNods x = state.made();
        act.said(x);
        same(call, sheetsOf(x), sheetsOf(state.made()));
    }

    /** Each number of each sheet, and how many bits it has: by what is left of one of 17 bits. */
    private static Map<String, Long> sheetsOf(AvenueNods x) {
        Map<String, Long> told = new LinkedHashMap<>();
        for (int s = 0; s < 4; s++) {
            for (int i = 0; i <= 40; i++) {
                told.put("number " + i + " of sheet " + s, x.write(s, i, 70000));
            }
            told.put("what is left in sheet " + s, x.write(s, 0, 0));
        }
        return told;
    }

    /** A call that is answered, and changes these answers of whole() and no other (but those behind the text). */
    static void changes(State state, String call, Act act, long answer, String... changed) {
        AvenueNods x = state.made();
        C.due(call, act.said(x), answer);
        Map<String, Long> before = whole(state.made());
        Set<String> differ = new TreeSet<>();
        for (Map.Entry<String, Long> is : whole(x).entrySet()) {
            if (!is.getKey().startsWith("text ") && !is.getValue().equals(before.get(is.getKey()))) {
                differ.add(is.getKey());
            }
        }
        Set<String> due = new TreeSet<>(List.of(changed));
        C.that(call + " changing " + due + " (it changes " + differ + ")", differ.equals(due));
    }

    private static void same(String call, Map<String, Long> is, Map<String, Long> want) {
        for (Map.Entry<String, Long> due : want.entrySet()) {
            C.due("behind " + call + ", " + due.getKey(), is.get(due.getKey()), due.getValue());
        }
        C.due("behind " + call + ", answers", is.size(), want.size());
    }

    /** All that can be asked of an object, which is used up by it: status, trees, sheets, tape, image. */
    static Map<String, Long> whole(AvenueNods x) {
        Map<String, Long> told = new LinkedHashMap<>();
        for (int which = -1; which < 7; which++) {
            told.put("status(" + which + ")", (long) x.status(which));
        }
        tellTrees(x, "", told);
        for (int s = 0; s < 4; s++) {
            for (int i : new int[] {0, 1, 2, 3, 39, 40}) {
                told.put("write(" + s + ", " + i + ")", x.write(s, i, 0));
            }
        }
        told.put("count(1)", (long) x.count(1));
        told.put("avenue()", (long) x.avenue());
        for (int tree = 0; tree < 12; tree++) {
            told.put("text of(" + tree + ", 5)", (long) x.of(tree, 5));
        }
        told.put("text now(1)", (long) x.now(1));
        told.put("undo()", (long) x.undo());
        if (told.get("undo()") != NONE) {
            tellTrees(x, "kept ", told);
        }
        told.put("tear()", (long) x.tear());
        return told;
    }

    private static void tellTrees(AvenueNods x, String ahead, Map<String, Long> told) {
        told.put(ahead + "now(0)", (long) x.now(0));
        told.put(ahead + "now(1)", (long) x.now(1));
        for (int tree = 0; tree < 12; tree++) {
            told.put(ahead + "of(" + tree + ", 0)", (long) x.of(tree, 0));
            told.put(ahead + "of(" + tree + ", 1)", (long) x.of(tree, 1));
            for (int message = 0; message < 8; message++) {
                told.put(ahead + "since(" + tree + ", " + message + ")", (long) x.since(tree, message));
            }
        }
    }

    // ---- avenues to begin with

    /**
     * Something of everything, in YEAR 6. All AGES are 46, but 5 of TREE 5 and 2 of TREE 9. KNOWN are: 0 by TREE 0,
     * 2 by TREE 7, 7 by TREE 11 (since 4), 7 by TREE 10 (since 5), 5 by TREE 3 (since 6). Kept is YEAR 4.
     */
    static AvenueNods some() {
        AvenueNods x = new AvenueNods();
        x.years(4);
        x.tell(0, 0);
        x.tell(11, 7);
        x.image();
        Checks.cutAll(x);
        x.meet(2, 1);
        x.meet(5, 1);
        x.turn(2, ELM);
        x.turn(5, SAPLING);
        x.age(5, 3);
        x.turn(7, STUMP);
        x.turn(8, OAK);
        x.plant(9, GRAFT);
        x.tell(7, 2);
        x.years(2);
        x.tell(3, 5);
        Checks.feedAll(x, "cut 2;word 6 1");
        x.sheet(0, 8, 3);
        x.sheet(1, 16, 4);
        x.sheet(2, 64, 3);
        for (int i = 0; i < 3; i++) {
            x.write(0, i, 1 + i);
            x.write(1, i, 10 + i);
            x.write(2, i, 20 + i);
        }
        x.of(12, 0);
        x.as(0, ELM);
        x.since(1, 1);
        x.tell(0, 0);
        x.lays(3);
        x.sheet(0, 8, -1);
        return x;
    }

    /** As much as can be: YEAR 9999, all grafts of 999, all is known by all, a full tape, four sheets of 40, an image. */
    static AvenueNods most() {
        AvenueNods x = new AvenueNods();
        for (int message = 0; message < 8; message++) {
            x.tell(0, message);
        }
        x.gale();
        for (int tree = 0; tree < 12; tree++) {
            x.turn(tree, GRAFT);
        }
        goTo(x, 9999);
        for (int i = 0; i < 29; i++) {
            x.feed(' ' << 24 | ' ' << 16 | ' ' << 8 | ' ', 4);
        }
        x.feed('c' << 24 | 'u' << 16 | 't' << 8 | '5', 4);
        for (int s = 0; s < 4; s++) {
            x.sheet(s, 64, 40);
        }
        x.write(0, 0, 999);
        for (int has = 1; has < 40; has *= 2) {
            x.copy(0, 0, 0, has, Math.min(has, 40 - has));
        }
        for (int s = 1; s < 4; s++) {
            x.copy(0, 0, s, 0, 40);
        }
        x.image();
        return x;
    }

    static void goTo(AvenueNods x, int year) {
        int now = x.now(0);
        while (now < year) {
            int n = Math.min(100, year - now);
            x.years(n);
            now += n;
        }
    }

    static AvenueNods inYear(int year) {
        AvenueNods x = new AvenueNods();
        goTo(x, year);
        return x;
    }

    /** No PAIR is INTRODUCED. */
    static AvenueNods cut() {
        AvenueNods x = new AvenueNods();
        Checks.cutAll(x);
        return x;
    }
}
