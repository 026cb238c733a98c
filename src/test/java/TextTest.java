/** Promises 24 to 26: feed, wipe, avenue. */
public final class TextTest {
    private static final Checks C = new Checks();

    public static void main(String[] args) {
        feed();
        feedOrder();
        wipe();
        items();
        itemsInOrder();
        words();
        faults();
        faultChangesNothing();
        longest();
        C.end();
    }

    private static void feed() {
        AvenueNods x = new AvenueNods();
        for (int n : new int[] {0, -1, 5, Integer.MIN_VALUE, Integer.MAX_VALUE}) {
            C.due("feed(1, " + n + ")", x.feed(1, n), Checks.BEYOND);
        }
        C.due("feed", x.feed(0, 1), 1);
        C.due("feed", x.feed(-1, 2), 3);
        C.due("feed", x.feed(-1, 3), 6);
        for (int i = 0; i < 28; i++) {
            C.due("feed", x.feed(-1, 4), 10 + 4 * i);
        }
        C.refused(x, "feed 3 to 118", () -> x.feed(0, 3), Checks.FULL);
        C.due("BEYOND is asked first", x.feed(0, 5), Checks.BEYOND);
        C.due("feed 1 to 118", x.feed(0, 1), 119);
        C.refused(x, "feed 2 to 119", () -> x.feed(0, 2), Checks.FULL);
        C.due("feed 1 to 119", x.feed(0, 1), 120);
        C.due("count(1)", x.count(1), 120);
        for (int n = 1; n <= 4; n++) {
            C.due("feed " + n + " to 120", x.feed(0, n), Checks.FULL);
        }
    }

    private static void feedOrder() {
        AvenueNods x = new AvenueNods();
        x.feed('c' << 24 | 'u' << 16 | 't' << 8 | '0', 4);
        x.feed('z' << 24 | ';' << 16 | 'c' << 8 | 'u', 3);
        x.feed('z' << 24 | 'z' << 16 | 't' << 8 | ' ', 2);
        x.feed('z' << 24 | 'z' << 16 | 'z' << 8 | '3', 1);
        C.due("cut0;cut 3", x.avenue(), 2);
        C.due("now(1)", x.now(1), 63 - 1 - 8);
    }

    private static void wipe() {
        AvenueNods x = new AvenueNods();
        C.due("wipe", x.wipe(), 0);
        Checks.feedAll(x, "cut 1;");
        C.due("wipe", x.wipe(), 6);
        C.due("count(1)", x.count(1), 0);
        Checks.feedAll(x, "cut 2");
        C.due("the text begins anew", x.avenue(), 1);
        C.due("now(1)", x.now(1), 63 - 4);
        C.due("THE TAPE is empty then", x.wipe(), 0);
    }

    private static void items() {
        String[] names = {"lime", "elm", "sapling", "stump", "oak", "graft"};
        for (int kind = 0; kind < 6; kind++) {
            AvenueNods x = new AvenueNods();
            int tree = 2 * kind + 1;
            x.turn(tree, (kind + 1) % 6);
            x.tell(tree, 2);
            text(x, names[kind] + " at " + kind + " 1", 1);
            C.due(names[kind] + ": KIND", x.of(tree, 0), kind);
            C.due(names[kind] + ": AGE", x.of(tree, 1), 0);
            C.due(names[kind] + ": KNOWS", x.of(tree, 5), 0);
            x.tell(tree - 1, 2);
            text(x, names[kind] + " at " + kind + " 0 age 999", 1);
            C.due(names[kind] + ": KIND", x.of(tree - 1, 0), kind);
            C.due(names[kind] + ": AGE", x.of(tree - 1, 1), 999);
            C.due(names[kind] + ": KNOWS", x.of(tree - 1, 5), 0);
            text(x, "cut " + kind, 1);
            C.due("cut " + kind, x.now(1), 63 - (1 << kind));
            text(x, "cut " + kind + "; meet " + kind, 2);
            C.due("meet " + kind, x.now(1), 63);
        }
    }

    private static void itemsInOrder() {
        AvenueNods x = new AvenueNods();
        x.years(5);
        text(x, "word 3 0; elm at 0 0; word 4 0; word 4 0; elm at 0 0 age 7; word 5 0", 6);
        C.due("KNOWS", x.of(0, 5), 32);
        C.due("AGE", x.of(0, 1), 7);
        text(x, "meet 1;cut 1;meet 0;cut 0;meet 0", 5);
        C.due("now(1)", x.now(1), 61);
    }

    private static void words() {
        AvenueNods x = new AvenueNods();
        x.turn(1, 3);
        x.years(2);
        text(x, "word 7 1; word 0 0", 2);
        C.due("whether it HEARS or not", x.since(1, 7), 2);
        C.due("word 0 0", x.since(0, 0), 2);
        x.years(1);
        text(x, "word 7 1; word 1 1", 2);
        C.due("nothing, if it KNOWS it", x.since(1, 7), 2);
        C.due("word 1 1", x.since(1, 1), 3);
        C.due("only those at the gate", x.now(4), 3);
    }

    private static void text(AvenueNods x, String text, int answer) {
        Checks.feedAll(x, text);
        C.due("'" + text + "'", x.avenue(), answer);
        C.due("'" + text + "': THE TAPE is empty", x.count(1), 0);
    }

    private static void faultAt(String text, int place) {
        text(new AvenueNods(), text, -1 - place);
    }

    private static void stands(String text, int items) {
        text(new AvenueNods(), text, items);
    }

    private static void faults() {
        faultAt("", 0);
        faultAt("   ", 3);
        faultAt(";", 0);
        faultAt("  ;", 2);
        faultAt("5", 0);
        faultAt("cut 1;", 6);
        faultAt("cut 1; ", 7);
        faultAt("cut 1;;cut 2", 6);
        faultAt("cut", 3);
        faultAt("cut ", 4);
        faultAt("cut 6", 4);
        faultAt("cut 1 2", 6);
        faultAt("cut 1 cut 2", 6);
        faultAt("cut at 1", 4);
        faultAt("cut ;", 4);
        faultAt("cuts 1", 0);
        faultAt("cu t 1", 0);
        faultAt("cut 1; meet 7", 12);
        faultAt("meet -1", 5);
        faultAt("meet 1000", 5);
        faultAt("meet 99999999999999999999999999", 5);
        faultAt("meet 4294967296", 5);
        faultAt("word", 4);
        faultAt("word;", 4);
        faultAt("word 3;", 6);
        faultAt("cut;", 3);
        faultAt("dut 1", 0);
        faultAt("cutz 1", 0);
        faultAt("cuta 1", 0);
        faultAt("mime at 0 0", 0);
        faultAt("limo at 0 0", 0);
        faultAt("lime it 0 0", 5);
        faultAt("word 8 0", 5);
        faultAt("word 7 2", 7);
        faultAt("word 7", 6);
        faultAt("word 7 1 age 3", 9);
        faultAt("word70", 4);
        faultAt("lime", 4);
        faultAt("lime at", 7);
        faultAt("limeat 0 0", 0);
        faultAt("lime 0 0", 5);
        faultAt("lime at 6 0", 8);
        faultAt("lime at 0 2", 10);
        faultAt("lime at 00", 10);
        faultAt("lime at 0 0 age", 15);
        faultAt("lime at 0 0 age;", 15);
        faultAt("lime at 0 0 age 1000", 16);
        faultAt("lime at 0 0 age 5 age 6", 18);
        faultAt("lime at 0 0 ages 5", 12);
        faultAt("lime at 0 0 5", 12);
        faultAt("at 0 0", 0);
        faultAt("age 5", 0);
        faultAt("Lime at 0 0", 0);
        faultAt("lime\tat 0 0", 4);
        faultAt("lime at 0 0\n", 11);
        faultAt("lime at 0,0", 9);
        faultAt("cut 1?", 5);
        faultAt("cut 1" + (char) 0, 5);
        faultAt("cut 1" + (char) 228, 5);
        faultAt((char) 255 + "cut 1", 0);
        faultAt("bush at 0 0; ?", 0);
        faultAt("cut 1; bush at 0 0", 7);
        faultAt("cut{1", 3);
        faultAt("cut`1", 3);
        faultAt("cut/1", 3);
        faultAt("cut:1", 3);
        stands("cut 1", 1);
        stands("cut1", 1);
        stands("  cut   1  ;meet    1  ", 2);
        stands("lime at0 0age0;elm at 5 1", 2);
        stands("lime at 0 0 age 000999", 1);
        stands("cut 0000000000000000000000000000000000005", 1);
        stands("word7 1;word 0 0", 2);
    }

    private static void faultChangesNothing() {
        AvenueNods x = new AvenueNods();
        x.tell(0, 1);
        String before = Checks.stateOf(x);
        text(x, "elm at 0 0 age 3; cut 3; word 2 1; cut 9", -1 - 39);
        C.that("a FAULT changes nothing", before.equals(Checks.stateOf(x)));
        C.due("since stays", x.since(0, 1), 0);
        C.due("and is no finding", x.status(-1), 0);
    }

    private static void longest() {
        AvenueNods x = new AvenueNods();
        StringBuilder text = new StringBuilder("cut 0");
        for (int i = 0; i < 23; i++) {
            text.append(";cut").append(i % 6);
        }
        C.due("120 bytes at most", Checks.feedAll(x, text.toString()), 120);
        C.due("24 ITEMS", x.avenue(), 24);
        C.due("now(1)", x.now(1), 0);
        Checks.feedAll(x, text.substring(0, 119) + "?");
        C.due("the last byte", x.avenue(), -1 - 119);
        Checks.feedAll(x, text.substring(0, 119) + "c");
        C.due("the last TOKEN", x.avenue(), -1 - 116);
    }
}
