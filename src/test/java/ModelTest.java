import java.lang.reflect.InvocationTargetException;
import java.lang.reflect.Method;
import java.util.ArrayList;
import java.util.Arrays;
import java.util.List;
import java.util.Map;
import java.util.Random;
import java.util.TreeMap;

/** Runs of 512 calls, picked by a fixed seed, on the class and on AvenueModel, which must answer alike. */
public final class ModelTest {
    private static final int CALLS = 512;
    private static final Map<String, Method> FACE = new TreeMap<>();
    private static final Random PICK = new Random(20261118L);
    private static final int[] WILD = {Integer.MIN_VALUE, Integer.MAX_VALUE, -1, -2, 1000, 10000};
    private static int findings = 0;

    public static void main(String[] args) throws Exception {
        for (Method method : AvenueNods.class.getDeclaredMethods()) {
            if (java.lang.reflect.Modifier.isPublic(method.getModifiers())) {
                FACE.put(method.getName(), method);
            }
        }
        int runs = args.length > 0 ? Integer.parseInt(args[0]) : 40;
        if (args.length > 1) {
            PICK.setSeed(Long.parseLong(args[1]));
        }
        for (int run = 0; run < runs; run++) {
            if (!alike(run)) {
                System.exit(1);
            }
        }
        System.out.println(runs + " runs of " + CALLS + " calls are as the model's, " + findings + " of them findings");
    }

    private static boolean alike(int run) throws Exception {
        AvenueNods x = new AvenueNods();
        AvenueModel model = new AvenueModel();
        List<String> said = new ArrayList<>();
        List<long[]> asked = new ArrayList<>();
        List<String> names = new ArrayList<>();
        int wild = run % 4 == 0 ? 4 : 40;
        while (said.size() < CALLS) {
            if (asked.isEmpty()) {
                choose(names, asked, wild);
            }
            String name = names.remove(0);
            long[] a = asked.remove(0);
            long due = model.act(name, a);
            long got = call(x, name, a);
            said.add(name + Arrays.toString(a) + " " + got);
            findings += got < -1000000000 ? 1 : 0;
            if (got != due) {
                said.forEach(System.out::println);
                System.out.println("run " + run + ": the last answered " + got + ", the model " + due);
                return false;
            }
        }
        return true;
    }

    private static long call(AvenueNods x, String name, long[] a) throws Exception {
        Method method = FACE.get(name);
        Class<?>[] types = method.getParameterTypes();
        Object[] values = new Object[types.length];
        for (int i = 0; i < types.length; i++) {
            if (types[i] == long.class) {
                values[i] = a[i];
            } else {
                values[i] = (int) a[i];
            }
        }
        try {
            return ((Number) method.invoke(x, values)).longValue();
        } catch (InvocationTargetException e) {
            throw new IllegalStateException(name + Arrays.toString(a), e.getCause());
        }
    }

    private static void choose(List<String> names, List<long[]> asked, int wild) {
        if (PICK.nextInt(12) == 0) {
            byte[] text = textOf().getBytes(java.nio.charset.StandardCharsets.ISO_8859_1);
            for (int i = 0; i < text.length;) {
                int n = Math.min(1 + PICK.nextInt(4), text.length - i);
                long v = PICK.nextInt();
                for (int j = 0; j < n; j++) {
                    v = v << 8 | text[i + j] & 255;
                }
                names.add("feed");
                asked.add(new long[] {(int) v, n});
                i += n;
            }
            names.add(PICK.nextInt(15) == 0 ? "wipe" : "avenue");
            asked.add(new long[0]);
            return;
        }
        if (PICK.nextInt(25) == 0) {
            bookAndRead(names, asked);
            return;
        }
        if (PICK.nextInt(150) == 0) {
            manyYears(names, asked);
            return;
        }
        String[] all = FACE.keySet().toArray(new String[0]);
        String name = all[PICK.nextInt(all.length)];
        if ((name.equals("gale") || name.equals("years") || name.equals("forget")) && PICK.nextInt(3) != 0) {
            name = PICK.nextBoolean() ? "tell" : "turn";
        }
        names.add(name);
        asked.add(arguments(name, wild));
    }

    private static void bookAndRead(List<String> names, List<long[]> asked) {
        int s = PICK.nextInt(4);
        int tree = PICK.nextInt(12);
        names.addAll(List.of("sheet", "book", "read"));
        asked.add(new long[] {s, new int[] {8, 16, 64}[PICK.nextInt(3)], 1 + PICK.nextInt(40)});
        asked.add(new long[] {s, tree});
        asked.add(new long[] {s, tree, PICK.nextInt(4) == 0 ? PICK.nextInt(12) : tree ^ 1});
    }

    /** So that stumps tell, AGES end at 999, and YEAR comes near to 9999, and is refused beyond it. */
    private static void manyYears(List<String> names, List<long[]> asked) {
        int times = PICK.nextInt(4) == 0 ? 100 : 1 + PICK.nextInt(12);
        for (int i = 0; i < times; i++) {
            names.add("years");
            asked.add(new long[] {PICK.nextInt(8) == 0 ? 99 : 100});
        }
    }

    private static long[] arguments(String name, int wild) {
        int[] most;
        switch (name) {
            case "of": most = new int[] {11, 5}; break;
            case "since": case "tell": case "when": case "kind": most = new int[] {11, 7}; break;
            case "plant": case "turn": case "as": most = new int[] {11, 5}; break;
            case "age": most = new int[] {11, PICK.nextBoolean() ? 25 : 999}; break;
            case "meet": most = new int[] {5, 1}; break;
            case "forget": case "home": case "last": case "introduce": case "lime": case "side": case "needed":
                most = new int[] {7}; break;
            case "years": most = new int[] {PICK.nextInt(4) == 0 ? 100 : 6}; break;
            case "now": most = new int[] {5}; break;
            case "on": most = new int[] {11, PICK.nextInt(3) == 0 ? 200 : 30}; break;
            case "delay": most = new int[] {PICK.nextInt(5) == 0 ? 60 : 12}; break;
            case "feed": most = new int[] {-1, 4}; break;
            case "sheet": most = new int[] {3, -2, 40}; break;
            case "write": most = new int[] {3, PICK.nextInt(3) == 0 ? 39 : 5, -1}; break;
            case "copy": most = new int[] {3, 5, 3, 5, PICK.nextBoolean() ? 2 : 20}; break;
            case "lays": most = new int[] {3}; break;
            case "book": most = new int[] {3, 11}; break;
            case "read": most = new int[] {3, 11, 11}; break;
            case "count": most = new int[] {3}; break;
            case "status": most = new int[] {7}; break;
            default: most = new int[0];
        }
        long[] a = new long[most.length];
        for (int i = 0; i < a.length; i++) {
            a[i] = argument(most[i], wild);
        }
        if (name.equals("status")) {
            a[0] -= 1;
        }
        if (name.equals("years") && a[0] == 0 && PICK.nextInt(5) != 0) {
            a[0] = 1;
        }
        return a;
    }

    private static long argument(int most, int wild) {
        if (most == -1) {
            long v = PICK.nextLong();
            int shift = PICK.nextInt(64);
            return PICK.nextInt(3) == 0 ? PICK.nextInt(256) : v >> shift;
        }
        if (most == -2) {
            return new int[] {0, 8, 8, 16, 16, 64, 64, 32}[PICK.nextInt(wild < 10 ? 8 : 7)];
        }
        if (PICK.nextInt(wild) == 0) {
            return PICK.nextBoolean() ? most + 1L : WILD[PICK.nextInt(WILD.length)];
        }
        return PICK.nextInt(most + 1);
    }

    private static String textOf() {
        StringBuilder text = new StringBuilder();
        int items = 1 + PICK.nextInt(4);
        for (int i = 0; i < items; i++) {
            text.append(i > 0 ? PICK.nextInt(4) == 0 ? " ; " : ";" : "");
            switch (PICK.nextInt(5)) {
                case 0: text.append("cut ").append(PICK.nextInt(6)); break;
                case 1: text.append("meet ").append(PICK.nextInt(6)); break;
                case 2: text.append("word ").append(PICK.nextInt(8)).append(' ').append(PICK.nextInt(2)); break;
                default:
                    text.append(AvenueModel.NAMES.get(PICK.nextInt(6))).append(" at ").append(PICK.nextInt(6));
                    text.append(' ').append(PICK.nextInt(2));
                    text.append(PICK.nextBoolean() ? " age " + PICK.nextInt(PICK.nextBoolean() ? 25 : 1001) : "");
            }
        }
        if (PICK.nextInt(3) == 0) {
            int at = PICK.nextInt(text.length());
            char sign = " ;a0z9age\u00e4\t{".charAt(PICK.nextInt(12));
            switch (PICK.nextInt(3)) {
                case 0: text.deleteCharAt(at); break;
                case 1: text.insert(at, sign); break;
                default: text.setCharAt(at, sign);
            }
        }
        return text.toString();
    }
}
