import java.lang.reflect.Constructor;
import java.lang.reflect.Field;
import java.lang.reflect.Method;
import java.lang.reflect.Modifier;
import java.nio.file.Files;
import java.nio.file.Path;
import java.util.ArrayList;
import java.util.HashSet;
import java.util.List;
import java.util.Set;
import java.util.TreeSet;
import java.util.regex.Matcher;
import java.util.regex.Pattern;

/** The face of the class is the document's, and what of LANGUAGE.md can be seen from the file is kept. */
public final class LanguageTest {
    private static final Checks C = new Checks();
    private static final Path SOURCE = Path.of("src/main/java/AvenueNods.java");
    private static final Path DOCUMENT = Path.of("../shared/DOC.md");

    public static void main(String[] args) throws Exception {
        face();
        signatures();
        interfaceSays();
        String code = withoutComments(Files.readString(SOURCE));
        words(code);
        objects(code);
        methodsAreShort(code);
        C.end();
    }

    /** Rule 1, against the face as the document tells it. */
    private static void face() throws Exception {
        Matcher block = Pattern.compile("```java\n(.*?)```", Pattern.DOTALL).matcher(Files.readString(DOCUMENT));
        C.that("the document tells a face", block.find());
        Set<String> due = new TreeSet<>();
        Matcher line = Pattern.compile("public (int|long) (\\w+)\\((.*?)\\);").matcher(block.group(1));
        while (line.find()) {
            due.add(line.group(1) + " " + line.group(2) + "(" + line.group(3).replaceAll("(int|long) \\w+", "$1") + ")");
        }
        Set<String> is = new TreeSet<>();
        Set<String> names = new HashSet<>();
        for (Method method : AvenueNods.class.getDeclaredMethods()) {
            if (!Modifier.isPrivate(method.getModifiers())) {
                C.that(method + " is public", Modifier.isPublic(method.getModifiers()));
                is.add(told(method));
                names.add(method.getName());
            }
        }
        C.due("calls of the face", due.size(), 36);
        C.that("the face " + is + " is " + due, is.equals(due));
        C.that("the class is public and final", AvenueNods.class.getModifiers() == (Modifier.PUBLIC | Modifier.FINAL));
        Constructor<?>[] constructors = AvenueNods.class.getDeclaredConstructors();
        C.due("constructors", constructors.length, 1);
        C.that("it is public", Modifier.isPublic(constructors[0].getModifiers()));
        for (Field field : AvenueNods.class.getDeclaredFields()) {
            C.that(field + " is private", Modifier.isPrivate(field.getModifiers()));
        }
        List<Class<?>> classes = new ArrayList<>(List.of(AvenueNods.class.getDeclaredClasses()));
        classes.add(AvenueNods.class);
        for (Class<?> each : classes) {
            C.that(each + " is static", each == AvenueNods.class || Modifier.isStatic(each.getModifiers()));
            for (Method method : each.getDeclaredMethods()) {
                boolean own = each == AvenueNods.class && Modifier.isPublic(method.getModifiers());
                C.that(method + " bears no name of the face", own || !names.contains(method.getName()));
                C.that(method + " takes at most 7", method.getParameterCount() <= 7);
            }
            for (Field field : each.getDeclaredFields()) {
                int modifiers = field.getModifiers();
                C.that(field + " is final if static", !Modifier.isStatic(modifiers) || Modifier.isFinal(modifiers));
            }
        }
    }

    /** Each promise bears the signature that the face tells. */
    private static void signatures() throws Exception {
        String document = Files.readString(DOCUMENT);
        Matcher promise = Pattern.compile("## Promise (\\d+): (\\w+).*\n\n`([^`]*)`: ").matcher(document);
        int promises = 0;
        while (promise.find()) {
            promises++;
            C.due("promise " + promise.group(1) + "'s place", Integer.parseInt(promise.group(1)), promises);
            C.that(promise.group(3) + " stands in the face", document.contains("public " + promise.group(3) + ";"));
        }
        C.due("promises", promises, 37);
    }

    /** The calls stand in the file in the document's order, with what the interface says ahead of them. */
    private static void interfaceSays() throws Exception {
        String source = Files.readString(SOURCE);
        Matcher ahead = Pattern.compile("Ahead of the calls (.*) the interface says: (---- .*)\\.\n")
            .matcher(Files.readString(DOCUMENT));
        int from = 0;
        int heads = 0;
        while (ahead.find()) {
            heads++;
            int head = source.indexOf("// " + ahead.group(2) + "\n", from);
            C.that(ahead.group(2) + " is said behind what stands ahead of it", head > from);
            from = Math.max(head, from);
            for (String name : ahead.group(1).replace("`", "").split(", ")) {
                int call = source.indexOf((name.equals("write") ? "public long " : "public int ") + name + "(", from);
                C.that(name + " stands behind " + ahead.group(2), call > from);
                from = Math.max(call, from);
            }
        }
        C.due("heads", heads, 6);
    }

    private static String told(Method method) {
        StringBuilder types = new StringBuilder();
        for (Class<?> type : method.getParameterTypes()) {
            types.append(types.length() > 0 ? ", " : "").append(type.getName());
        }
        return method.getReturnType().getName() + " " + method.getName() + "(" + types + ")";
    }

    private static String withoutComments(String source) {
        return source.replaceAll("(?s)/\\*.*?\\*/", "").replaceAll("//[^\n]*", "");
    }

    /** Rules 2, 4, 6, 13: what may not stand in the file, and the one import that it needs. */
    private static void words(String code) {
        String[] refused = {"throw", "throws", "try", "catch", "finally", "synchronized", "assert", "package", "protected",
            "volatile", "native", "yield", "var", "Object", "Thread", "Random", "equals", "hashCode", "toString",
            "nanoTime", "currentTimeMillis", "double", "float", "enum", "interface", "record"};
        for (String word : refused) {
            C.that("no '" + word + "'", !Pattern.compile("\\b" + word + "\\b").matcher(code).find());
        }
        C.that("no lambda, no arrow", !code.contains("->"));
        C.that("no method reference", !code.contains("::"));
        Matcher imports = Pattern.compile("import [^;]*;").matcher(code);
        while (imports.find()) {
            C.that(imports.group(), imports.group().equals("import java.util.Arrays;"));
        }
        Matcher library = Pattern.compile("\\b(Arrays|Math|Integer|Long|System)\\.(\\w+)").matcher(code);
        Set<String> fine = Set.of("Arrays.fill", "Math.min", "Math.max", "Integer.bitCount", "System.arraycopy");
        while (library.find()) {
            C.that(library.group(), fine.contains(library.group()));
        }
        C.that("signs 1 to 127 alone", code.chars().allMatch(c -> c < 128));
    }

    /** The room is one for all calls: every object is made with the object itself, in a field or the constructor. */
    private static void objects(String code) {
        Matcher made = Pattern.compile("\\n([^\\n]*)\\bnew \\w+[^\\n]*").matcher(code);
        while (made.find()) {
            String line = made.group().trim();
            C.that(line + " is made once", line.contains("final ") || line.equals("sheets[s] = new Sheet();"));
        }
    }

    /** Rule 11. */
    private static void methodsAreShort(String code) {
        String head = "^( +)(?:public |private |static )*\\w+ ?\\w*\\([^)\\n]*\\) \\{\\n";
        Matcher method = Pattern.compile("(?sm)" + head + ".*?^\\1\\}").matcher(code);
        int methods = 0;
        while (method.find()) {
            methods++;
            String first = method.group().trim().split("\n")[0];
            C.that(first + " is short", method.group().split("\n").length <= 60);
        }
        C.that("methods are found", methods > 36);
    }
}
