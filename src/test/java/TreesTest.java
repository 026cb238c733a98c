/** Promises 1 to 8: a new object, of, since, plant, turn, age, as, meet. */
public final class TreesTest {
    private static final Checks C = new Checks();
    private static final int[] BAD_TREES = {-1, 12, Integer.MIN_VALUE, Integer.MAX_VALUE};
    private static final int[] BAD_KINDS = {-1, 6, Integer.MIN_VALUE, Integer.MAX_VALUE};
    private static final int[] BAD_MESSAGES = {-1, 8, Integer.MIN_VALUE, Integer.MAX_VALUE};

    public static void main(String[] args) {
        newObject();
        ofKinds();
        hearsByYear();
        ofRefused();
        since();
        plant();
        turn();
        age();
        as();
        meet();
        C.end();
    }

    private static void newObject() {
        AvenueNods x = new AvenueNods();
        C.due("new status(-1)", x.status(-1), 0);
        for (int tree = 0; tree < 12; tree++) {
            C.due("new of(" + tree + ", 0)", x.of(tree, 0), 0);
            C.due("new of(" + tree + ", 1)", x.of(tree, 1), 40);
            C.due("new of(" + tree + ", 5)", x.of(tree, 5), 0);
        }
        C.due("new now(0)", x.now(0), 0);
        C.due("new now(1)", x.now(1), 63);
        C.due("new now(3)", x.now(3), 0);
        C.due("new now(5)", x.now(5), 480);
        C.due("new count(1)", x.count(1), 0);
        C.due("new tear()", x.tear(), 0);
        C.due("new undo()", x.undo(), Checks.NONE);
        for (int s = 0; s < 4; s++) {
            C.due("new lays(" + s + ")", x.lays(s), Checks.MISSING);
        }
        C.due("new status(-1)", x.status(-1), 5);
    }

    /** LEANS, NODS and HEARS (in a YEAR whose rest by 3 is 1) of each KIND at the ages where they change. */
    private static void ofKinds() {
        int[] ages = {0, 4, 5, 9, 10, 19, 20, 999};
        int[][] leans = {
            {3, 3, 3, 3, 3, 3, 3, 3}, {7, 7, 7, 7, 7, 7, 7, 7}, {13, 9, 8, 4, 3, 3, 3, 3},
            {999, 999, 999, 999, 999, 999, 999, 999}, {14, 14, 14, 14, 14, 14, 14, 14}, {11, 7, 6, 2, 1, 1, 1, 1}};
        int[][] nods = {
            {1, 1, 1, 1, 1, 1, 1, 1}, {2, 2, 2, 2, 2, 2, 2, 2}, {2, 2, 2, 2, 2, 2, 1, 1},
            {999, 999, 999, 999, 999, 999, 999, 999}, {2, 2, 2, 2, 2, 2, 2, 2}, {2, 2, 2, 2, 2, 2, 1, 1}};
        int[][] hears = {
            {1, 1, 1, 1, 1, 1, 1, 1}, {1, 1, 1, 1, 1, 1, 1, 1}, {0, 0, 1, 1, 1, 1, 1, 1},
            {0, 0, 0, 0, 0, 0, 0, 0}, {1, 1, 1, 1, 1, 1, 1, 1}, {0, 0, 1, 1, 1, 1, 1, 1}};
        for (int kind = 0; kind < 6; kind++) {
            AvenueNods x = new AvenueNods();
            x.years(1);
            int tree = 2 * kind + 1;
            x.turn(tree, kind);
            for (int i = 0; i < ages.length; i++) {
                x.age(tree, ages[i]);
                String who = "kind " + kind + " at " + ages[i] + ": ";
                C.due(who + "of 0", x.of(tree, 0), kind);
                C.due(who + "of 1", x.of(tree, 1), ages[i]);
                C.due(who + "of 2", x.of(tree, 2), leans[kind][i]);
                C.due(who + "of 3", x.of(tree, 3), nods[kind][i]);
                C.due(who + "of 4", x.of(tree, 4), hears[kind][i]);
            }
        }
    }

    private static void hearsByYear() {
        AvenueNods x = new AvenueNods();
        x.turn(3, 1);
        x.turn(4, 4);
        int[] hears = {0, 1, 1, 0, 1, 1, 0};
        for (int year = 0; year < hears.length; year++) {
            C.due("elm in " + year, x.of(3, 4), hears[year]);
            C.due("oak in " + year, x.of(4, 4), hears[year]);
            C.due("lime in " + year, x.of(5, 4), 1);
            x.years(1);
        }
    }

    private static void ofRefused() {
        AvenueNods x = new AvenueNods();
        for (int tree : BAD_TREES) {
            C.refused(x, "of(" + tree + ", 0)", () -> x.of(tree, 0), Checks.BEYOND);
        }
        AvenueNods y = new AvenueNods();
        for (int what : new int[] {-1, 6, Integer.MIN_VALUE, Integer.MAX_VALUE}) {
            C.refused(y, "of(0, " + what + ")", () -> y.of(0, what), Checks.BEYOND);
        }
        y.tell(5, 0);
        y.tell(5, 7);
        C.due("of(5, 5)", y.of(5, 5), 129);
    }

    private static void since() {
        AvenueNods x = new AvenueNods();
        x.years(7);
        x.tell(4, 3);
        C.due("since told", x.since(4, 3), 7);
        C.refused(x, "since of who doesn't", () -> x.since(5, 3), Checks.NONE);
        x.years(3);
        C.due("since stays", x.since(4, 3), 7);
        C.due("since of the one across: YEAR 8 has it known for 1", x.since(5, 3), 8);
        C.refused(x, "since of the one above, not yet", () -> x.since(6, 3), Checks.NONE);
        x.years(1);
        C.due("since of the one above: YEAR 10 has it known for 3", x.since(6, 3), 10);
        AvenueNods y = new AvenueNods();
        for (int tree : BAD_TREES) {
            C.due("since(" + tree + ", 0)", y.since(tree, 0), Checks.BEYOND);
        }
        for (int message : BAD_MESSAGES) {
            C.due("since(0, " + message + ")", y.since(0, message), Checks.BEYOND);
        }
        C.due("only BEYOND was counted", y.status(0), 8);
        C.due("only BEYOND was counted", y.status(-1), 8);
    }

    private static void plant() {
        AvenueNods x = new AvenueNods();
        x.tell(2, 1);
        x.tell(3, 1);
        C.due("plant", x.plant(2, 4), 0);
        C.due("plant: KIND", x.of(2, 0), 4);
        C.due("plant: AGE", x.of(2, 1), 0);
        C.due("plant: KNOWS nothing", x.of(2, 5), 0);
        C.due("plant: the others stay", x.of(3, 5), 2);
        C.due("plant: the others stay", x.of(3, 1), 40);
        C.due("plant again, the same KIND", x.plant(2, 4), 4);
        for (int tree : BAD_TREES) {
            C.refused(x, "plant(" + tree + ", 1)", () -> x.plant(tree, 1), Checks.BEYOND);
        }
        AvenueNods y = new AvenueNods();
        y.tell(0, 0);
        for (int kind : BAD_KINDS) {
            C.refused(y, "plant(0, " + kind + ")", () -> y.plant(0, kind), Checks.BEYOND);
        }
    }

    private static void turn() {
        AvenueNods x = new AvenueNods();
        x.tell(2, 1);
        x.age(2, 17);
        C.due("turn", x.turn(2, 5), 0);
        C.due("turn: KIND", x.of(2, 0), 5);
        C.due("turn: AGE stays", x.of(2, 1), 17);
        C.due("turn: what it KNOWS stays", x.of(2, 5), 2);
        C.due("turn back", x.turn(2, 3), 5);
        for (int tree : BAD_TREES) {
            C.refused(x, "turn(" + tree + ", 1)", () -> x.turn(tree, 1), Checks.BEYOND);
        }
        AvenueNods y = new AvenueNods();
        for (int kind : BAD_KINDS) {
            C.refused(y, "turn(0, " + kind + ")", () -> y.turn(0, kind), Checks.BEYOND);
        }
    }

    private static void age() {
        AvenueNods x = new AvenueNods();
        C.due("age", x.age(11, 0), 40);
        C.due("age", x.age(11, 999), 0);
        C.due("age", x.of(11, 1), 999);
        C.due("age of another", x.of(10, 1), 40);
        x.years(1);
        C.due("AGE at most", x.of(11, 1), 999);
        for (int tree : BAD_TREES) {
            C.refused(x, "age(" + tree + ", 1)", () -> x.age(tree, 1), Checks.BEYOND);
        }
        AvenueNods y = new AvenueNods();
        for (int v : new int[] {-1, 1000, Integer.MIN_VALUE, Integer.MAX_VALUE}) {
            C.refused(y, "age(0, " + v + ")", () -> y.age(0, v), Checks.BEYOND);
        }
    }

    private static void as() {
        boolean[][] under = {
            {true, false, false, false, false, false},
            {true, true, false, false, false, false},
            {true, false, true, false, false, false},
            {true, false, false, true, false, false},
            {true, true, false, false, true, false},
            {true, false, true, false, false, true}};
        AvenueNods x = new AvenueNods();
        x.age(7, 123);
        for (int is = 0; is < 6; is++) {
            x.turn(7, is);
            for (int asked = 0; asked < 6; asked++) {
                C.due("kind " + is + " as " + asked, x.as(7, asked), under[is][asked] ? 123 : Checks.KIND);
            }
        }
        C.due("KIND counted", x.status(2), 36 - 13);
        AvenueNods y = new AvenueNods();
        for (int tree : BAD_TREES) {
            C.due("as(" + tree + ", 0)", y.as(tree, 0), Checks.BEYOND);
        }
        for (int kind : BAD_KINDS) {
            C.due("as(0, " + kind + ")", y.as(0, kind), Checks.BEYOND);
        }
        C.due("counted", y.status(0), 8);
        C.refused(y, "as(0, 1)", () -> y.as(0, 1), Checks.KIND);
    }

    private static void meet() {
        AvenueNods x = new AvenueNods();
        C.due("meet(5, 0)", x.meet(5, 0), 1);
        C.due("meet(5, 0)", x.meet(5, 0), 0);
        C.due("now(1)", x.now(1), 31);
        C.due("meet(0, 1)", x.meet(0, 1), 1);
        C.due("meet(0, 0)", x.meet(0, 0), 1);
        C.due("now(1)", x.now(1), 30);
        C.due("meet(5, 1)", x.meet(5, 1), 0);
        C.due("now(1)", x.now(1), 62);
        for (int bad : new int[] {-1, 6, Integer.MIN_VALUE, Integer.MAX_VALUE}) {
            C.due("meet(" + bad + ", 0)", x.meet(bad, 0), Checks.BEYOND);
        }
        for (int bad : new int[] {-1, 2, Integer.MIN_VALUE, Integer.MAX_VALUE}) {
            C.refused(x, "meet(0, " + bad + ")", () -> x.meet(0, bad), Checks.BEYOND);
        }
        C.due("now(1)", x.now(1), 62);
    }
}
