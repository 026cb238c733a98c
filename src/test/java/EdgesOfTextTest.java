/** The edges of promises 24 to 26: feed, wipe, avenue. */
public final class EdgesOfTextTest extends Edges {
    private static final String[] NAMES = {"lime", "elm", "sapling", "stump", "oak", "graft"};

    public static void main(String[] args) throws Exception {
        runAll(EdgesOfTextTest.class);
    }

    private static AvenueNods withBytes(int n) {
        AvenueNods x = new AvenueNods();
        Checks.feedAll(x, ";".repeat(n));
        return x;
    }

    private static AvenueNods fed(String text) {
        AvenueNods x = some();
        x.wipe();
        Checks.feedAll(x, text);
        return x;
    }

    /** A text that stands: so many ITEMS, and THE TAPE is empty. */
    private static void stands(String text, int items) {
        AvenueNods x = fed(text);
        due("'" + text + "'", x.avenue(), items);
        due("'" + text + "', bytes left", x.count(1), 0);
    }

    /** A FAULT at a place: nothing changes but that THE TAPE is empty, and no finding is counted. */
    private static void fault(String text, int place) {
        asked(() -> fed(""), "'" + text + "'", x -> {
            Checks.feedAll(x, text);
            return x.avenue();
        }, -1 - place);
    }

    /** A text that stands, and changes these answers of whole() alone. */
    private static void makes(String text, int items, String... changed) {
        changes(() -> fed(""), "'" + text + "'", x -> {
            Checks.feedAll(x, text);
            return x.avenue();
        }, items, changed);
    }

    // ---- promise 24

    @Says("(n 1 to 4)")
    static void promise24NIs1To4() {
        AvenueNods x = new AvenueNods();
        due("feed(0, 1)", x.feed(0, 1), 1);
        due("feed(0, 4)", x.feed(0, 4), 5);
        for (int n : outside(1, 4)) {
            refused("feed(0, " + n + ")", y -> y.feed(0, n), BEYOND);
            refused("feed(-1, " + n + ")", y -> y.feed(-1, n), BEYOND);
        }
    }

    @Says("(bytes, at most 120)")
    static void promise24TheTapeHas120AtMost() {
        due("4 to 116", withBytes(116).feed(0, 4), 120);
        due("3 to 117", withBytes(117).feed(0, 3), 120);
        due("2 to 118", withBytes(118).feed(0, 2), 120);
        due("1 to 119", withBytes(119).feed(0, 1), 120);
        refusedIn(() -> withBytes(117), "4 to 117", x -> x.feed(0, 4), FULL);
        refusedIn(() -> withBytes(118), "3 to 118", x -> x.feed(0, 3), FULL);
        refusedIn(() -> withBytes(119), "2 to 119", x -> x.feed(0, 2), FULL);
        for (int i = 1; i <= 4; i++) {
            int n = i;
            refusedIn(Edges::most, n + " to 120", x -> x.feed(0, n), FULL);
        }
        AvenueNods x = withBytes(118);
        due("refused", x.feed(0, 4), FULL);
        due("fewer are taken still", x.feed(0, 2), 120);
    }

    @Says("BEYOND: n. FULL.")
    static void promise24BeyondIsAskedAheadOfFull() {
        refusedIn(Edges::most, "0 to 120", x -> x.feed(0, 0), BEYOND);
        refusedIn(Edges::most, "5 to 120", x -> x.feed(0, 5), BEYOND);
        refusedIn(() -> withBytes(117), "5 to 117", x -> x.feed(0, 5), BEYOND);
        refusedIn(() -> withBytes(117), "max to 117", x -> x.feed(0, Integer.MAX_VALUE), BEYOND);
    }

    @Says("THE TAPE gets the n lowest bytes of a number behind it, the highest of these first")
    static void promise24TheLowestBytesTheHighestFirst() {
        int cut0 = 'c' << 24 | 'u' << 16 | 't' << 8 | '0';
        AvenueNods x = new AvenueNods();
        x.feed(cut0, 4);
        due("all 4", x.avenue(), 1);
        x.feed('c', 1);
        x.feed(cut0 & 0xffffff, 3);
        due("3 of 4, the highest being 0", x.avenue(), 1);
        x.feed(0xff000000 | 'c' << 8 | 'u', 2);
        x.feed(0x80ffff00 | 't', 1);
        x.feed(0xff000000 | '0', 1);
        due("the highest are left out, of a number below 0 too", x.avenue(), 1);
        x.feed(cut0, 3);
        due("the highest is left out", x.avenue(), -1);
    }

    @Says("THE TAPE gets the n lowest bytes of a number behind it")
    static void promise24NothingElseChanges() {
        changes(Edges::some, "feed(0, 4)", x -> x.feed(0, 4), 18, "count(1)", "avenue()");
    }

    // ---- promise 25

    @Says("THE TAPE is empty: how many it had.")
    static void promise25From0To120() {
        asked(AvenueNods::new, "wipe() of nothing", AvenueNods::wipe, 0);
        changes(Edges::some, "wipe() of 14", AvenueNods::wipe, 14, "count(1)", "avenue()");
        changes(Edges::most, "wipe() of 120", AvenueNods::wipe, 120, "count(1)", "avenue()");
        AvenueNods x = most();
        x.wipe();
        due("again", x.wipe(), 0);
        due("there is room again", Checks.feedAll(x, "cut 1".repeat(24)), 120);
    }

    // ---- promise 26

    @Says("or how many bytes there are if it ends too early")
    static void promise26EndsTooEarly() {
        fault("", 0);
        fault(" ", 1);
        fault(" ".repeat(120), 120);
        String[] texts = {"cut", "meet", "word", "word 7", "lime", "graft at", "oak at 5", "elm at 5 1 age", "cut 1;"};
        for (String text : texts) {
            fault(text, text.length());
            fault(text + "  ", text.length() + 2);
        }
        fault(" ".repeat(117) + "cut", 120);
    }

    @Says("from THE TAPE (bytes, at most 120)")
    static void promise26AllOf120BytesCount() {
        stands(" ".repeat(115) + "cut 5", 1);
        stands("cut 5" + " ".repeat(115), 1);
        fault("cut 5" + " ".repeat(114) + ";", 120);
        fault("cut 5" + " ".repeat(114) + "5", 119);
        fault("cut 5" + " ".repeat(114) + "?", 119);
        stands("cut" + "0".repeat(116) + "5", 1);
        fault("cut" + "0".repeat(116) + "6", 3);
        fault("c".repeat(120), 0);
    }

    @Says("whose ITEMS come to what there is, and empty then: how many ITEMS.")
    static void promise26From1To24Items() {
        stands("cut 0", 1);
        stands("cut 0;cut 0", 2);
        stands("cut0" + ";cut0".repeat(23), 24);
        stands("cut0" + ";cut0".repeat(23) + " ", 24);
        fault("cut0" + ";cut0".repeat(23) + ";", 120);
        makes("meet 0;cut 0", 2);
        makes("lime at 0 0;oak at 0 0 age 46;lime at 0 0 age 46", 3, "since(0, 0)");
        makes("word 1 0;lime at 0 0 age 46;word 0 0", 3, "since(0, 0)");
    }

    @Says("TOKENS, each as long as can be: WORDS (letters a to z)")
    static void promise26WordsAreOfLettersAToZ() {
        fault("cutcut 1", 0);
        fault("limeat 0 0", 0);
        fault("lime atat 0 0", 5);
        fault("cu", 0);
        fault("cu t 1", 0);
        fault("cut1cut", 4);
        fault("cuta 1", 0);
        fault("cutz 1", 0);
        fault("Cut 1", 0);
        fault("cuT 1", 0);
        fault("`cut 1", 0);
        fault("{cut 1", 0);
        fault("cut@1", 3);
        fault("cut[1", 3);
        fault("a", 0);
        fault("z", 0);
        stands("cut1", 1);
        stands("lime at0 0age5", 1);
    }

    @Says("NUMBERS (digits, 999 at most)")
    static void promise26NumbersAre999AtMost() {
        makes("lime at 0 0 age 999;word 0 0", 2, "of(0, 1)", "since(0, 0)");
        stands("lime at 0 0 age 0999", 1);
        fault("lime at 0 0 age 1000", 16);
        fault("lime at 0 0 age 9990", 16);
        fault("lime at 0 0 age 65536", 16);
        fault("lime at 0 0 age 4294967296", 16);
        fault("lime at 0 0 age 4294967301", 16);
        fault("lime at 0 0 age 18446744073709551616", 16);
        fault("lime at 0 0 age -1", 16);
        fault("lime at 0 0 age +1", 16);
        fault("lime at 0 0 age /", 16);
        fault("lime at 0 0 age :", 16);
        fault("lime at 00 0 0", 13);
        fault("lime at 10", 8);
    }

    @Says("TEXT: ITEM { ; ITEM }.")
    static void promise26SignsStandBetweenItems() {
        fault(";", 0);
        fault(";cut 1", 0);
        fault("cut 1;", 6);
        fault("cut 1;;cut 2", 6);
        fault("cut 1 ; ; cut 2", 8);
        fault("cut 1 cut 2", 6);
        fault("cut 1,cut 2", 5);
        fault("cut;1", 3);
        fault("lime;at 0 0", 4);
        fault("lime at;0 0", 7);
        fault("lime at 0;0", 9);
        fault("lime at 0 0 age;5", 15);
        fault("word;0 0", 4);
        fault("word 0;0", 6);
        stands("cut 1;cut 2", 2);
    }

    @Says("blanks may stand between")
    static void promise26BlanksMayStandBetween() {
        stands("  cut   1  ;  meet   1  ", 2);
        stands("cut1;meet1", 2);
        stands("word7 1", 1);
        fault("word71", 4);
        fault("cut\t1", 3);
        fault("cut 1\n", 5);
        fault("cut 1\r", 5);
        fault("cut 1" + (char) 0, 5);
        fault("cut" + (char) 160 + "1", 3);
    }

    @Says("the name of a KIND (lime elm sapling stump oak graft), at, two NUMBERS")
    static void promise26EachKindIsNamed() {
        for (int kind = 0; kind < 6; kind++) {
            AvenueNods x = fed(NAMES[kind] + " at 5 1");
            due(NAMES[kind], x.avenue(), 1);
            due(NAMES[kind] + ": KIND", x.of(11, 0), kind);
            fault(NAMES[kind] + "s at 5 1", 0);
            fault(NAMES[kind].substring(1) + " at 5 1", 0);
            fault(NAMES[kind].substring(0, NAMES[kind].length() - 1) + " at 5 1", 0);
            fault("z" + NAMES[kind].substring(1) + " at 5 1", 0);
            fault(NAMES[kind].substring(0, NAMES[kind].length() - 1) + "z at 5 1", 0);
            fault(NAMES[kind] + " 5 1", NAMES[kind].length() + 1);
            fault(NAMES[kind] + " age 5 1", NAMES[kind].length() + 1);
        }
    }

    @Says("(a PLACE 0 to 5, a SIDE 0 or 1)")
    static void promise26PlacesAre0To5AndSides0Or1() {
        makes("elm at 0 0 age 46;word 0 0", 2, "of(0, 0)", "since(0, 0)");
        makes("elm at 0 1 age 46", 1, "of(1, 0)");
        makes("elm at 5 0 age 46", 1, "of(10, 0)", "since(10, 7)");
        makes("elm at 5 1 age 46", 1, "of(11, 0)", "since(11, 7)");
        fault("elm at 6 0", 7);
        fault("elm at 6 1", 7);
        fault("elm at 0 2", 9);
        fault("elm at 5 2", 9);
        fault("elm at 999 0", 7);
        fault("elm at 0 999", 9);
        fault("elm at 11", 7);
        fault("elm at a 0", 7);
        fault("elm at 0 a", 9);
    }

    @Says("perhaps age and a NUMBER (0 to 999; 0 without)")
    static void promise26AgesAre0To999And0Without() {
        makes("lime at 0 1", 1, "of(1, 1)");
        due("without", laid("lime at 0 1").of(1, 1), 0);
        due("age 0", laid("lime at 0 1 age 0").of(1, 1), 0);
        due("age 1", laid("lime at 0 1 age 1").of(1, 1), 1);
        due("age 999", laid("lime at 0 1 age 999").of(1, 1), 999);
        fault("lime at 0 1 age 1000", 16);
        fault("lime at 0 1 age", 15);
        fault("lime at 0 1 age age", 16);
        fault("lime at 0 1 age 1 age 1", 18);
        fault("lime at 0 1 age 1 1", 18);
        fault("lime at 0 1 1", 12);
        fault("lime at 0 1 aged 1", 12);
        fault("lime at 0 1 ago 1", 12);
        fault("lime at 0 1 ice 1", 12);
        fault("lime it 0 1", 5);
        fault("lime as 0 1", 5);
        fault("cut 1 age 1", 6);
        fault("word 1 1 age 1", 9);
        fault("age 1", 0);
    }

    private static AvenueNods laid(String text) {
        AvenueNods x = fed(text);
        x.avenue();
        return x;
    }

    @Says("that TREE is so, and KNOWS nothing")
    static void promise26ATreeToldKnowsNothing() {
        AvenueNods x = most();
        x.wipe();
        Checks.feedAll(x, "graft at 3 1 age 999");
        due("graft", x.avenue(), 1);
        due("it KNOWS nothing", x.of(7, 5), 0);
        due("the others", x.now(4), 88);
    }

    @Says("cut or meet, a NUMBER (a PLACE): the PAIR is INTRODUCED no more, or is")
    static void promise26CutAndMeetArePlaces0To5() {
        makes("cut 5", 1, "now(1)");
        makes("meet 0", 1, "now(1)");
        makes("cut 0", 1);
        makes("meet 5", 1);
        for (int place = 0; place < 6; place++) {
            due("cut " + place, laid("cut " + place).now(1), 36 & ~(1 << place));
            due("meet " + place, laid("meet " + place).now(1), 36 | 1 << place);
        }
        fault("cut 6", 4);
        fault("meet 6", 5);
        fault("cut 999", 4);
        fault("meet 1000", 5);
        fault("cut 1 1", 6);
        fault("cut cut", 4);
        fault("dut 1", 0);
        fault("cup 1", 0);
        fault("feet 1", 0);
        fault("cut at 1", 4);
    }

    @Says("word, a NUMBER (0 to 7), a NUMBER (a SIDE): the message is KNOWN by the TREE at PLACE 0 on it since this YEAR")
    static void promise26WordsOfMessages0To7OnSides0Or1() {
        makes("word 7 0", 1, "since(0, 7)");
        makes("word 0 1", 1, "since(1, 0)");
        makes("word 7 1", 1, "since(1, 7)");
        due("since this YEAR", laid("word 7 1").since(1, 7), 6);
        fault("word 8 0", 5);
        fault("word 8 1", 5);
        fault("word 0 2", 7);
        fault("word 7 2", 7);
        fault("word 999 0", 5);
        fault("word a 0", 5);
        fault("ford 0 0", 0);
        fault("worn 0 0", 0);
        fault("word 0 a", 7);
        fault("word 0 0 0", 9);
    }

    @Says("(whether it HEARS or not; nothing, if it KNOWS it)")
    static void promise26WordsToWhoDoesNotHearOrKnowsIt() {
        makes("word 0 0", 1);
        makes("word 7 1;word 7 1", 2, "since(1, 7)");
        for (int kind = 0; kind < 6; kind++) {
            AvenueNods x = fed("word 3 1");
            x.plant(1, kind);
            due("word to kind " + kind, x.avenue(), 1);
            due("it is known by kind " + kind, x.since(1, 3), 6);
        }
    }

    @Says("the first TOKEN that can't stand there (a NUMBER that may not be, another WORD, a byte that begins no TOKEN)")
    static void promise26TheFirstOfSeveralFaults() {
        fault("cut 6;cut 7", 4);
        fault("cut 1;cut 7;?", 10);
        fault("cut 1;bush;cut 9", 6);
        fault("cut ?6", 4);
        fault("cut 6?", 4);
        fault("? cut 6", 0);
        fault("lime at 6 2 age 1000", 8);
        fault("lime at 5 2 age 1000", 10);
        fault("lime at 5 1 age 1000", 16);
        fault("5", 0);
        fault("1000", 0);
        fault("at", 0);
    }

    @Says("a byte that begins no TOKEN")
    static void promise26AllBytesThatBeginNoToken() {
        for (int b = 0; b < 256; b++) {
            boolean token = b >= 'a' && b <= 'z' || b >= '0' && b <= '9' || b == ';' || b == ' ';
            if (!token) {
                AvenueNods x = new AvenueNods();
                Checks.feedAll(x, "cut 1");
                x.feed(b, 1);
                due("cut 1 and byte " + b, x.avenue(), -6);
                x.feed(b, 1);
                due("byte " + b, x.avenue(), -1);
            }
        }
    }

    @Says("With a FAULT: -1 less its place (nothing changes but that THE TAPE is empty; no finding).")
    static void promise26WithAFaultNothingChanges() {
        fault("elm at 0 0 age 3;cut 5;meet 0;word 2 1;word 3 0;cut 6", 52);
        fault("graft at 5 1;lime at 3 1;", 25);
        changes(() -> withBytes(1), "';'", AvenueNods::avenue, -1, "count(1)");
        changes(() -> fed("cut 6"), "'cut 6'", AvenueNods::avenue, -5, "count(1)", "avenue()");
        AvenueNods x = new AvenueNods();
        Checks.feedAll(x, "cut 6");
        x.avenue();
        Checks.feedAll(x, "cut 5");
        due("the next text begins anew", x.avenue(), 1);
    }
}
