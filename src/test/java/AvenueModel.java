import java.util.ArrayList;
import java.util.HashMap;
import java.util.List;
import java.util.Map;
import java.util.TreeMap;
import java.util.function.Consumer;
import java.util.regex.Matcher;
import java.util.regex.Pattern;

/**
 * The document once more, written for plainness and apart from the class: every act is a line of the document, each
 * YEAR makes a new avenue out of the old one, and nothing is shared. The class is held against it by ModelTest.
 */
final class AvenueModel {
    static final class Finding extends RuntimeException {
        final int which;

        Finding(int which) {
            super(null, null, false, false);
            this.which = which;
        }
    }

    static class Lime {
        int leans(int age) {
            return 3;
        }

        int nods(int age) {
            return 1;
        }

        boolean hears(int age, int year, boolean fromAcross) {
            return true;
        }
    }

    static class Elm extends Lime {
        @Override int leans(int age) {
            return super.leans(age) + 4;
        }

        @Override int nods(int age) {
            return super.nods(age) + 1;
        }

        @Override boolean hears(int age, int year, boolean fromAcross) {
            return year % 3 != 0;
        }
    }

    static class Sapling extends Lime {
        @Override int leans(int age) {
            int more = 0;
            for (int a = age; a < 10; a++) {
                more++;
            }
            return super.leans(age) + more;
        }

        @Override int nods(int age) {
            return age < 20 ? super.nods(age) * 2 : super.nods(age);
        }

        @Override boolean hears(int age, int year, boolean fromAcross) {
            return age >= 5;
        }
    }

    static class Stump extends Lime {
        @Override int leans(int age) {
            return 999;
        }

        @Override int nods(int age) {
            return 999;
        }

        @Override boolean hears(int age, int year, boolean fromAcross) {
            return false;
        }
    }

    static class Oak extends Elm {
        @Override int leans(int age) {
            return super.leans(age) * 2;
        }
    }

    static class Graft extends Sapling {
        @Override int leans(int age) {
            return super.leans(age) - 2;
        }

        @Override boolean hears(int age, int year, boolean fromAcross) {
            return fromAcross || super.hears(age, year, fromAcross);
        }
    }

    static final Lime[] KINDS = {new Lime(), new Elm(), new Sapling(), new Stump(), new Oak(), new Graft()};
    static final List<String> NAMES = List.of("lime", "elm", "sapling", "stump", "oak", "graft");

    static final class Tree {
        int kind = 0;
        int age = 40;
        Map<Integer, Integer> known = new TreeMap<>();

        Tree twin() {
            Tree t = new Tree();
            t.kind = kind;
            t.age = age;
            t.known = new TreeMap<>(known);
            return t;
        }

        int leans() {
            return KINDS[kind].leans(age);
        }

        int nods() {
            return KINDS[kind].nods(age);
        }

        int set() {
            int set = 0;
            for (int message : known.keySet()) {
                set += 1 << message;
            }
            return set;
        }
    }

    static final class State {
        int year = 0;
        Tree[][] at = new Tree[6][2];
        boolean[] introduced = {true, true, true, true, true, true};

        State() {
            for (Tree[] pair : at) {
                pair[0] = new Tree();
                pair[1] = new Tree();
            }
        }

        State twin() {
            State s = new State();
            s.year = year;
            s.introduced = introduced.clone();
            for (int p = 0; p < 6; p++) {
                s.at[p] = new Tree[] {at[p][0].twin(), at[p][1].twin()};
            }
            return s;
        }

        State but(Consumer<State> change) {
            State s = twin();
            change.accept(s);
            return s;
        }

        Tree tree(int tree) {
            return at[tree / 2][tree % 2];
        }

        boolean tells(Tree teller, int message, int wait) {
            return teller.known.containsKey(message) && year - teller.known.get(message) >= wait;
        }

        State next() {
            State s = twin();
            for (int t = 0; t < 12; t++) {
                s.tree(t).age = Math.min(999, s.tree(t).age + 1);
            }
            State old = s.twin();
            for (int p = 0; p < 6; p++) {
                for (int side = 0; side < 2; side++) {
                    Tree listener = s.at[p][side];
                    for (int m = 0; m < 8; m++) {
                        boolean told = false;
                        if (p > 0 && KINDS[listener.kind].hears(listener.age, year, false)) {
                            Tree below = old.at[p - 1][side];
                            told = old.tells(below, m, below.leans());
                        }
                        if (introduced[p] && KINDS[listener.kind].hears(listener.age, year, true)) {
                            Tree across = old.at[p][1 - side];
                            told |= old.tells(across, m, across.nods());
                        }
                        if (told) {
                            listener.known.putIfAbsent(m, year);
                        }
                    }
                }
            }
            s.year = year + 1;
            return s;
        }

        State on(int n) {
            State s = this;
            for (int i = 0; i < n; i++) {
                s = s.next();
            }
            return s;
        }

        State blown() {
            State s = twin();
            for (int t = 0; t < 12; t++) {
                Tree listener = s.tree(t);
                if (KINDS[listener.kind].hears(listener.age, year, true)) {
                    for (int other = 0; other < 12; other++) {
                        for (int m : tree(other).known.keySet()) {
                            listener.known.putIfAbsent(m, year);
                        }
                    }
                }
            }
            return s;
        }

        int homes() {
            return at[5][0].set() | at[5][1].set();
        }

        int known() {
            int known = 0;
            for (int t = 0; t < 12; t++) {
                known += tree(t).known.size();
            }
            return known;
        }

        int when(int tree, int message) {
            State s = this;
            for (int n = 0; n <= 200; n++, s = s.next()) {
                if (s.tree(tree).known.containsKey(message)) {
                    return n;
                }
            }
            return 9999;
        }

        int home(int message) {
            return Math.min(when(10, message), when(11, message));
        }
    }

    static final class Page {
        final int bits;
        final long[] numbers;

        Page(int bits, int n) {
            this.bits = bits;
            numbers = new long[n];
        }

        void put(int i, long v) {
            numbers[i] = bits == 8 ? (byte) v : bits == 16 ? (short) v : v;
        }
    }

    State state = new State();
    State kept = null;
    final List<Byte> tape = new ArrayList<>();
    final Map<Integer, Page> pages = new HashMap<>();
    final int[] found = new int[7];

    /** An act by its name, as told in the face. */
    long act(String name, long... a) {
        try {
            return answer(name, a);
        } catch (Finding f) {
            found[f.which]++;
            return -1000000001L - f.which;
        }
    }

    static final int BEYOND = 0;
    static final int FULL = 1;
    static final int KIND = 2;
    static final int NONE = 3;
    static final int STATE = 4;
    static final int MISSING = 5;
    static final int SIZE = 6;

    private static void unless(boolean holds, int which) {
        if (!holds) {
            throw new Finding(which);
        }
    }

    private static int in(long v, int least, int most) {
        unless(v >= least && v <= most, BEYOND);
        return (int) v;
    }

    private static int best(int answer) {
        unless(answer >= 0, NONE);
        return answer;
    }

    private long answer(String name, long[] a) {
        switch (name) {
            case "of": case "since": case "plant": case "turn": case "age": case "as": case "meet":
                return trees(name, a);
            case "tell": case "forget": case "years": case "gale": case "now": case "on": case "when": case "home":
            case "last":
                return messages(name, a);
            case "introduce": case "lime": case "kind": case "delay": case "side": case "needed":
                return what(name, a);
            case "feed": case "wipe": case "avenue":
                return text(name, a);
            case "sheet": case "write": case "copy": case "lays": case "book": case "read":
                return sheets(name, a);
            default:
                return images(name, a);
        }
    }

    private long trees(String name, long[] a) {
        if (name.equals("meet")) {
            int place = in(a[0], 0, 5);
            int v = in(a[1], 0, 1);
            boolean was = state.introduced[place];
            state.introduced[place] = v == 1;
            return was ? 1 : 0;
        }
        Tree t = state.tree(in(a[0], 0, 11));
        int was = t.kind;
        switch (name) {
            case "of":
                int[] told = {t.kind, t.age, t.leans(), t.nods(),
                    KINDS[t.kind].hears(t.age, state.year, false) ? 1 : 0, t.set()};
                return told[in(a[1], 0, 5)];
            case "since":
                int message = in(a[1], 0, 7);
                unless(t.known.containsKey(message), NONE);
                return t.known.get(message);
            case "plant":
                t.kind = in(a[1], 0, 5);
                t.age = 0;
                t.known.clear();
                return was;
            case "turn":
                t.kind = in(a[1], 0, 5);
                return was;
            case "age":
                int v = in(a[1], 0, 999);
                int aged = t.age;
                t.age = v;
                return aged;
            default:
                unless(KINDS[in(a[1], 0, 5)].getClass().isInstance(KINDS[t.kind]), KIND);
                return t.age;
        }
    }

    private int knowers(int message) {
        int n = 0;
        for (int t = 0; t < 12; t++) {
            n += state.tree(t).known.containsKey(message) ? 1 : 0;
        }
        return n;
    }

    private long messages(String name, long[] a) {
        switch (name) {
            case "tell": {
                Tree t = state.tree(in(a[0], 0, 11));
                int m = in(a[1], 0, 7);
                unless(!t.known.containsKey(m), STATE);
                t.known.put(m, state.year);
                return knowers(m);
            }
            case "forget": {
                int m = in(a[0], 0, 7);
                int were = knowers(m);
                for (int t = 0; t < 12; t++) {
                    state.tree(t).known.remove(m);
                }
                return were;
            }
            case "years": {
                int n = in(a[0], 1, 100);
                unless(state.year <= 9999 - n, STATE);
                state = state.on(n);
                return state.homes();
            }
            case "gale": {
                int before = state.known();
                state = state.blown();
                return state.known() - before;
            }
            case "now":
                return now(in(a[0], 0, 5));
            case "on":
                return state.on(in(a[1], 0, 200)).tree(in(a[0], 0, 11)).set();
            case "when": {
                int n = state.when(in(a[0], 0, 11), in(a[1], 0, 7));
                unless(n <= 200, NONE);
                return n;
            }
            case "home": {
                int n = state.home(in(a[0], 0, 7));
                unless(n <= 200, NONE);
                return n;
            }
            default: {
                int m = in(a[0], 0, 7);
                int latest = -1;
                int last = -1;
                for (int t = 0; t < 12; t++) {
                    int n = state.when(t, m);
                    if (n > latest) {
                        latest = n;
                        last = t;
                    }
                }
                return last;
            }
        }
    }

    private int now(int what) {
        int told = 0;
        switch (what) {
            case 0:
                return state.year;
            case 1:
                for (int p = 0; p < 6; p++) {
                    told += state.introduced[p] ? 1 << p : 0;
                }
                return told;
            case 2:
                return state.homes();
            case 3:
                for (int t = 0; t < 12; t++) {
                    told |= state.tree(t).set();
                }
                return told;
            case 4:
                return state.known();
            default:
                for (int t = 0; t < 12; t++) {
                    told += state.tree(t).age;
                }
                return told;
        }
    }

    private long what(String name, long[] a) {
        int best = -1;
        if (name.equals("delay")) {
            int n = in(a[0], 0, 60);
            int most = -1;
            for (int d = 0; d <= n; d++) {
                int known = state.on(d).blown().on(n - d).known();
                if (known > most) {
                    most = known;
                    best = d;
                }
            }
            return best;
        }
        if (name.equals("kind")) {
            int tree = in(a[0], 0, 11);
            int m = in(a[1], 0, 7);
            int soonest = 201;
            for (int k = 0; k < 6; k++) {
                int kind = k;
                int n = state.but(s -> s.tree(tree).kind = kind).home(m);
                if (n < soonest) {
                    soonest = n;
                    best = k;
                }
            }
            return best(best);
        }
        int m = in(a[0], 0, 7);
        int latest = -1;
        int soonest = Math.min(201, name.equals("side") ? 201 : state.home(m));
        if (name.equals("side")) {
            unless(knowers(m) == 0, STATE);
        }
        int ways = name.equals("introduce") ? 6 : name.equals("side") ? 2 : 12;
        for (int i = 0; i < ways; i++) {
            int w = i;
            State supposed = state.but(s -> {
                switch (name) {
                    case "introduce":
                        s.introduced[w] = true;
                        break;
                    case "lime":
                        s.tree(w).kind = 0;
                        break;
                    case "side":
                        s.at[0][w].known.put(m, s.year);
                        break;
                    default:
                        s.tree(w).kind = 3;
                        s.tree(w).known.clear();
                }
            });
            int n = supposed.home(m);
            if (name.equals("needed")) {
                if (n > latest) {
                    latest = n;
                    best = w;
                }
            } else if (n < soonest) {
                soonest = n;
                best = w;
            }
        }
        return best(best);
    }

    private long text(String name, long[] a) {
        if (name.equals("feed")) {
            int n = in(a[1], 1, 4);
            unless(tape.size() + n <= 120, FULL);
            for (int i = n; i > 0; i--) {
                tape.add((byte) (a[0] >>> (8 * (i - 1))));
            }
            return tape.size();
        }
        int had = tape.size();
        StringBuilder chars = new StringBuilder();
        for (byte b : tape) {
            chars.append((char) (b & 255));
        }
        tape.clear();
        return name.equals("wipe") ? had : lay(chars.toString());
    }

    private static final Pattern TOKEN = Pattern.compile("[a-z]+|[0-9]+|[^ ]", Pattern.DOTALL);

    private static final class Fault extends RuntimeException {
        final int token;

        Fault(int token) {
            super(null, null, false, false);
            this.token = token;
        }
    }

    private int lay(String chars) {
        List<String> tokens = new ArrayList<>();
        List<Integer> places = new ArrayList<>();
        Matcher matcher = TOKEN.matcher(chars);
        while (matcher.find()) {
            tokens.add(matcher.group());
            places.add(matcher.start());
        }
        tokens.add("");
        places.add(chars.length());
        State s = state.twin();
        int items = 0;
        try {
            int at = 0;
            while (true) {
                at = item(s, tokens, at);
                items++;
                if (tokens.get(at).isEmpty()) {
                    state = s;
                    return items;
                }
                word(tokens, at, ";");
                at++;
            }
        } catch (Fault f) {
            return -1 - places.get(f.token);
        }
    }

    private static void word(List<String> tokens, int at, String due) {
        if (!tokens.get(at).equals(due)) {
            throw new Fault(at);
        }
    }

    private static int number(List<String> tokens, int at, int most) {
        String t = tokens.get(at);
        if (!t.matches("[0-9]+") || new java.math.BigInteger(t).compareTo(java.math.BigInteger.valueOf(most)) > 0) {
            throw new Fault(at);
        }
        return new java.math.BigInteger(t).intValue();
    }

    private static int item(State s, List<String> tokens, int at) {
        String first = tokens.get(at);
        if (NAMES.contains(first)) {
            word(tokens, at + 1, "at");
            int place = number(tokens, at + 2, 5);
            int side = number(tokens, at + 3, 1);
            Tree t = new Tree();
            t.kind = NAMES.indexOf(first);
            t.age = 0;
            s.at[place][side] = t;
            if (!tokens.get(at + 4).equals("age")) {
                return at + 4;
            }
            t.age = number(tokens, at + 5, 999);
            return at + 6;
        }
        if (first.equals("cut") || first.equals("meet")) {
            s.introduced[number(tokens, at + 1, 5)] = first.equals("meet");
            return at + 2;
        }
        word(tokens, at, "word");
        int m = number(tokens, at + 1, 7);
        s.at[0][number(tokens, at + 2, 1)].known.putIfAbsent(m, s.year);
        return at + 3;
    }

    private Page page(long s) {
        Page p = pages.get(in(s, 0, 3));
        unless(p != null, MISSING);
        return p;
    }

    private long sheets(String name, long[] a) {
        switch (name) {
            case "sheet": {
                int s = in(a[0], 0, 3);
                unless(List.of(0L, 8L, 16L, 64L).contains(a[1]), BEYOND);
                unless(a[2] >= 0, SIZE);
                int n = in(a[2], 0, 40);
                pages.remove(s);
                if (a[1] == 0) {
                    return 0;
                }
                pages.put(s, new Page((int) a[1], n));
                return n;
            }
            case "write": {
                Page p = page(a[0]);
                int i = in(a[1], 0, p.numbers.length - 1);
                long was = p.numbers[i];
                p.put(i, a[2]);
                return was;
            }
            case "copy": {
                in(a[0], 0, 3);
                in(a[2], 0, 3);
                Page from = page(a[0]);
                Page to = page(a[2]);
                unless(from.bits == to.bits, KIND);
                unless(a[1] >= 0 && a[3] >= 0 && a[4] >= 0, BEYOND);
                unless(a[1] + a[4] <= from.numbers.length && a[3] + a[4] <= to.numbers.length, BEYOND);
                long[] were = from.numbers.clone();
                for (int i = 0; i < a[4]; i++) {
                    to.numbers[(int) a[3] + i] = were[(int) a[1] + i];
                }
                return a[4];
            }
            case "lays": {
                Page p = page(a[0]);
                int came = 0;
                for (int i = 0; i < p.numbers.length; i++) {
                    if (i < 12 && p.numbers[i] >= 0 && p.numbers[i] <= 999) {
                        state.tree(i).age = (int) p.numbers[i];
                        came++;
                    }
                }
                return came;
            }
            case "book": {
                Page p = page(a[0]);
                int tree = in(a[1], 0, 11);
                for (int i = 0; i < p.numbers.length; i++) {
                    p.put(i, state.on(i).tree(tree).set());
                }
                return p.numbers.length;
            }
            default: {
                Page p = page(a[0]);
                int tree = in(a[1], 0, 11);
                int other = in(a[2], 0, 11);
                unless(tree != other, BEYOND);
                int pairs = 0;
                for (int i = 0; i < 36; i++) {
                    int k = i;
                    State s = state.but(t -> {
                        t.tree(tree).kind = k / 6;
                        t.tree(other).kind = k % 6;
                    });
                    boolean so = true;
                    for (int n = 0; n < p.numbers.length && so; n++, s = s.next()) {
                        so = s.tree(tree).set() == p.numbers[n];
                    }
                    pairs += so ? 1 : 0;
                }
                return pairs;
            }
        }
    }

    private long images(String name, long[] a) {
        switch (name) {
            case "image":
                kept = state.twin();
                return 1;
            case "undo":
                unless(kept != null, NONE);
                state = kept.twin();
                return state.year;
            case "tear":
                int was = kept == null ? 0 : 1;
                kept = null;
                return was;
            case "count":
                int[] told = new int[4];
                told[1] = tape.size();
                for (int t = 0; t < 12; t++) {
                    told[0] += state.tree(t).kind != 0 ? 1 : 0;
                    told[3] += state.tree(t).known.isEmpty() ? 0 : 1;
                }
                for (boolean introduced : state.introduced) {
                    told[2] += introduced ? 1 : 0;
                }
                return told[in(a[0], 0, 3)];
            default:
                int which = in(a[0], -1, 6);
                int all = 0;
                for (int f : found) {
                    all += f;
                }
                return which < 0 ? all : found[which];
        }
    }
}
