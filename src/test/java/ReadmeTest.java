import java.lang.reflect.Method;
import java.nio.file.Files;
import java.nio.file.Path;
import java.util.Map;
import java.util.Set;
import java.util.TreeMap;
import java.util.TreeSet;
import java.util.regex.Matcher;
import java.util.regex.Pattern;

/** The calls in README.md answer what it says, and each call of the face is among them. */
public final class ReadmeTest {
    private static final Checks C = new Checks();
    private static final Pattern BLOCK = Pattern.compile("```java\n(.*?)```", Pattern.DOTALL);
    private static final Pattern NEW = Pattern.compile("AvenueNods x = new AvenueNods\\(\\);( +// .*)?");
    private static final Pattern CALL = Pattern.compile("x\\.(\\w+)\\(([^)]*)\\); +// (-?\\d+)(: .*)?");
    private static final Map<String, Method> FACE = new TreeMap<>();
    private static final Set<String> SHOWN = new TreeSet<>();

    public static void main(String[] args) throws Exception {
        for (Method method : AvenueNods.class.getMethods()) {
            if (method.getDeclaringClass() == AvenueNods.class) {
                FACE.put(method.getName(), method);
            }
        }
        Matcher block = BLOCK.matcher(Files.readString(Path.of("README.md")));
        while (block.find()) {
            use(block.group(1).split("\n"));
        }
        C.that("each call's being shown (shown are " + SHOWN + ")", SHOWN.equals(FACE.keySet()));
        C.end();
    }

    private static void use(String[] lines) throws Exception {
        C.that("'" + lines[0] + "' being the making of an object", NEW.matcher(lines[0]).matches());
        AvenueNods x = new AvenueNods();
        for (int i = 1; i < lines.length; i++) {
            Matcher call = CALL.matcher(lines[i]);
            boolean isCall = call.matches() && FACE.containsKey(call.group(1));
            C.that("'" + lines[i] + "' being a call with its answer", isCall);
            if (isCall) {
                SHOWN.add(call.group(1));
                C.due(lines[i], answer(x, FACE.get(call.group(1)), call.group(2)), Long.parseLong(call.group(3)));
            }
        }
    }

    private static long answer(AvenueNods x, Method method, String said) throws Exception {
        String[] numbers = said.isEmpty() ? new String[0] : said.split(", ");
        Class<?>[] types = method.getParameterTypes();
        Object[] values = new Object[numbers.length];
        for (int i = 0; i < values.length; i++) {
            if (types[i] == long.class) {
                values[i] = Long.valueOf(numbers[i]);
            } else {
                values[i] = Integer.valueOf(numbers[i]);
            }
        }
        return ((Number) method.invoke(x, values)).longValue();
    }
}
