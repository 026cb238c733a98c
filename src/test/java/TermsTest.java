/**
 * The document's terms from their first line to their last, each sentence whole, with ordinary inputs. All answers that
 * are due here were reckoned by hand from the sentence.
 */
public final class TermsTest extends Edges {
    private static final int[] AGES = {0, 1, 4, 5, 9, 10, 19, 20, 40, 999};

    public static void main(String[] args) throws Exception {
        runAll(TermsTest.class);
    }

    @Says("FINDINGS are answers below -1000000000: -1000000001 BEYOND, -1000000002 FULL, -1000000003 KIND, -1000000004 "
        + "NONE, -1000000005 STATE, -1000000006 MISSING, -1000000007 SIZE (in longs, too).")
    static void termsFindings() {
        AvenueNods x = new AvenueNods();
        Checks.feedAll(x, " ".repeat(120));
        x.tell(0, 0);
        due("of(12, 0)", x.of(12, 0), -1000000001L);
        due("write(4, 0, 0)", x.write(4, 0, 0), -1000000001L);
        due("feed(0, 1)", x.feed(0, 1), -1000000002L);
        due("as(0, 1)", x.as(0, 1), -1000000003L);
        due("since(1, 0)", x.since(1, 0), -1000000004L);
        due("tell(0, 0)", x.tell(0, 0), -1000000005L);
        due("lays(0)", x.lays(0), -1000000006L);
        due("write(0, 0, 0)", x.write(0, 0, 0), -1000000006L);
        due("sheet(0, 8, -1)", x.sheet(0, 8, -1), -1000000007L);
    }

    /** Each of these calls has two findings that would do, or more: the one that is asked first is told. */
    @Says("Each act tells its findings in the order in which they are asked; one that answers a finding changes nothing "
        + "but status().")
    static void termsTheFindingThatIsAskedFirstIsTold() {
        refusedIn(Edges::most, "years(101) in 9999", x -> x.years(101), BEYOND);
        refusedIn(Edges::most, "feed(0, 5) to a full tape", x -> x.feed(0, 5), BEYOND);
        refusedIn(Edges::some, "sheet(4, 8, -1)", x -> x.sheet(4, 8, -1), BEYOND);
        refusedIn(Edges::some, "sheet(0, 9, -1)", x -> x.sheet(0, 9, -1), BEYOND);
        refusedIn(Edges::some, "write(3, 40, 0)", x -> x.write(3, 40, 0), MISSING);
        refusedIn(Edges::some, "copy(3, 0, 4, 0, 1)", x -> x.copy(3, 0, 4, 0, 1), BEYOND);
        refusedIn(Edges::some, "copy(4, 0, 3, 0, 1)", x -> x.copy(4, 0, 3, 0, 1), BEYOND);
        refusedIn(Edges::some, "copy(0, 0, 3, 0, -1)", x -> x.copy(0, 0, 3, 0, -1), MISSING);
        refusedIn(Edges::some, "copy(0, 9, 1, 9, -1)", x -> x.copy(0, 9, 1, 9, -1), KIND);
        refusedIn(Edges::some, "book(4, 0)", x -> x.book(4, 0), BEYOND);
        refusedIn(Edges::some, "book(3, 12)", x -> x.book(3, 12), MISSING);
        refusedIn(Edges::some, "read(3, 12, 12)", x -> x.read(3, 12, 12), MISSING);
        refusedIn(Edges::some, "read(3, 5, 5)", x -> x.read(3, 5, 5), MISSING);
        refusedIn(Edges::some, "tell(0, 8)", x -> x.tell(0, 8), BEYOND);
        refusedIn(Edges::some, "as(0, 6)", x -> x.as(0, 6), BEYOND);
    }

    /** Which TREE stands where is seen from the text; who is ACROSS and ABOVE from who gets to KNOW a message. */
    @Says({"Quotients are cut.", "TREES 0 to 11: at PLACES 0 (the gate) to 5 (the terrace), by 2, on SIDES 0 and 1 (the "
        + "rest). ACROSS from one: that at its PLACE on the other SIDE. ABOVE one: that at the next PLACE on its SIDE "
        + "(none above PLACE 5)."})
    static void termsWhereTheTreesStand() {
        int[] places = {0, 0, 1, 1, 2, 2, 3, 3, 4, 4, 5, 5};
        int[] sides = {0, 1, 0, 1, 0, 1, 0, 1, 0, 1, 0, 1};
        int[] across = {1, 0, 3, 2, 5, 4, 7, 6, 9, 8, 11, 10};
        int[] above = {2, 3, 4, 5, 6, 7, 8, 9, 10, 11, -1, -1};
        for (int tree = 0; tree < 12; tree++) {
            AvenueNods x = new AvenueNods();
            Checks.feedAll(x, "stump at " + places[tree] + " " + sides[tree]);
            due("stump " + tree, x.avenue(), 1);
            due("of(" + tree + ", 0)", x.of(tree, 0), STUMP);
            due("no other is one", x.count(0), 1);
            AvenueNods y = cut();
            y.meet(places[tree], 1);
            y.tell(tree, 0);
            y.years(3);
            knownBy(y, "across from " + tree, tree, across[tree]);
            AvenueNods z = cut();
            z.tell(tree, 0);
            z.years(4);
            knownBy(z, "above " + tree, tree, above[tree]);
        }
    }

    private static void knownBy(AvenueNods x, String who, int tree, int other) {
        for (int t = 0; t < 12; t++) {
            due(who + ", of(" + t + ", 5)", x.of(t, 5), t == tree || t == other ? 1 : 0);
        }
    }

    @Says("Sets are told by bits.")
    static void termsSets() {
        AvenueNods x = new AvenueNods();
        x.tell(10, 0);
        x.tell(10, 2);
        x.tell(11, 2);
        x.tell(11, 7);
        x.tell(4, 4);
        due("of(10, 5)", x.of(10, 5), 0b101);
        due("of(11, 5)", x.of(11, 5), 0b10000100);
        due("now(2)", x.now(2), 0b10000101);
        due("now(3)", x.now(3), 0b10010101);
        due("on(10, 2)", x.on(10, 2), 0b10000101);
        due("years(1)", x.years(1), 0b10000101);
        x.meet(0, 0);
        x.meet(4, 0);
        due("now(1)", x.now(1), 0b101110);
    }

    @Says("YEAR: 0 at first (9999 at most).")
    static void termsYear() {
        due("of a new object", new AvenueNods().now(0), 0);
        AvenueNods x = inYear(9998);
        due("in 9998, years(2)", x.years(2), STATE);
        due("in 9998, years(1)", x.years(1), 0);
        due("now(0)", x.now(0), 9999);
        due("in 9999, years(1)", x.years(1), STATE);
        due("now(0)", x.now(0), 9999);
    }

    @Says("Each TREE is of a KIND: 0 LIME (at first), 1 ELM under LIME, 2 SAPLING under LIME, 3 STUMP under LIME, 4 OAK "
        + "under ELM, 5 GRAFT under SAPLING; each with an AGE (0 to 999; 40 at first).")
    static void termsKinds() {
        String[] names = {"lime", "elm", "sapling", "stump", "oak", "graft"};
        int[][] under = {{0}, {0, 1}, {0, 2}, {0, 3}, {0, 1, 4}, {0, 2, 5}};
        AvenueNods x = new AvenueNods();
        for (int tree = 0; tree < 12; tree++) {
            due("of(" + tree + ", 0) at first", x.of(tree, 0), 0);
            due("of(" + tree + ", 1) at first", x.of(tree, 1), 40);
        }
        for (int kind = 0; kind < 6; kind++) {
            Checks.feedAll(x, names[kind] + " at 3 1 age 999");
            x.avenue();
            due(names[kind], x.of(7, 0), kind);
            for (int other = 0; other < 6; other++) {
                int due = KIND;
                for (int upper : under[kind]) {
                    due = upper == other ? 999 : due;
                }
                due(names[kind] + " as " + names[other], x.as(7, other), due);
            }
        }
    }

    @Says({"PAIRS (the two at a PLACE) are INTRODUCED, or not (all are at first).",
        "MESSAGES 0 to 7: each TREE KNOWS one since a YEAR, or not (at first)."})
    static void termsPairsAndMessages() {
        AvenueNods x = new AvenueNods();
        for (int place = 0; place < 6; place++) {
            due("meet(" + place + ", 0) at first", x.meet(place, 0), 1);
            due("meet(" + place + ", 0) then", x.meet(place, 0), 0);
        }
        for (int tree = 0; tree < 12; tree++) {
            for (int message = 0; message < 8; message++) {
                due("since(" + tree + ", " + message + ") at first", x.since(tree, message), NONE);
            }
        }
        x.years(5);
        x.tell(9, 7);
        x.years(2);
        due("since(9, 7)", x.since(9, 7), 5);
        due("since(9, 6)", x.since(9, 6), NONE);
        due("since(8, 7), the pair is cut", x.since(8, 7), NONE);
    }

    @Says("LEANS (how many years it must KNOW one before it tells the one ABOVE): LIME: 3. ELM: as LIME, and 4. SAPLING: "
        + "as LIME, and 1 for each year of AGE below 10. STUMP: 999. OAK: twice as ELM. GRAFT: as SAPLING, less 2.")
    static void termsLeans() {
        int[][] leans = {
            {3, 3, 3, 3, 3, 3, 3, 3, 3, 3},
            {7, 7, 7, 7, 7, 7, 7, 7, 7, 7},
            {13, 12, 9, 8, 4, 3, 3, 3, 3, 3},
            {999, 999, 999, 999, 999, 999, 999, 999, 999, 999},
            {14, 14, 14, 14, 14, 14, 14, 14, 14, 14},
            {11, 10, 7, 6, 2, 1, 1, 1, 1, 1}};
        told(2, leans, 0);
        int[] since = {3, 7, 3, 999, 14, 1};
        for (int kind = 0; kind < 6; kind++) {
            AvenueNods x = cut();
            x.turn(4, kind);
            x.tell(4, 0);
            goTo(x, since[kind]);
            due("kind " + kind + " has not told it yet", x.of(6, 5), 0);
            x.years(1);
            due("kind " + kind + " tells it above", x.since(6, 0), since[kind]);
        }
    }

    @Says("NODS (how many years before it tells the one ACROSS): LIME: 1. ELM: as LIME, and 1. SAPLING: as LIME, twice "
        + "that below an AGE of 20. STUMP: 999. OAK: as ELM. GRAFT: as SAPLING.")
    static void termsNods() {
        int[][] nods = {
            {1, 1, 1, 1, 1, 1, 1, 1, 1, 1},
            {2, 2, 2, 2, 2, 2, 2, 2, 2, 2},
            {2, 2, 2, 2, 2, 2, 2, 1, 1, 1},
            {999, 999, 999, 999, 999, 999, 999, 999, 999, 999},
            {2, 2, 2, 2, 2, 2, 2, 2, 2, 2},
            {2, 2, 2, 2, 2, 2, 2, 1, 1, 1}};
        told(3, nods, 0);
        int[] since = {1, 2, 1, 999, 2, 1};
        for (int kind = 0; kind < 6; kind++) {
            AvenueNods x = new AvenueNods();
            x.turn(11, kind);
            x.tell(11, 0);
            goTo(x, since[kind]);
            due("kind " + kind + " has not told it yet", x.of(10, 5), 0);
            x.years(1);
            due("kind " + kind + " tells it across", x.since(10, 0), since[kind]);
        }
    }

    /** In YEARS 3, 4 and 5: TREE 6 is asked, and then told over the way by TREE 7, a lime that KNOWS it since 0. */
    @Says("HEARS (whether it takes a message at all): LIME: yes. ELM: but in YEARS whose rest by 3 is 0 not. SAPLING: from "
        + "an AGE of 5 on. STUMP: no. OAK: as ELM. GRAFT: as SAPLING, or from the one ACROSS at any AGE. (Others as the "
        + "KIND above, here and there.)")
    static void termsHears() {
        int[] always = {1, 1, 1, 1, 1, 1, 1, 1, 1, 1};
        int[] never = {0, 0, 0, 0, 0, 0, 0, 0, 0, 0};
        int[] from5 = {0, 0, 0, 1, 1, 1, 1, 1, 1, 1};
        for (int year = 3; year < 6; year++) {
            int[] elm = year == 3 ? never : always;
            told(4, new int[][] {always, elm, from5, never, elm, from5}, year);
            int[] young = {1, year == 3 ? 0 : 1, 0, 0, year == 3 ? 0 : 1, 1};
            for (int kind = 0; kind < 6; kind++) {
                AvenueNods x = cut();
                x.turn(6, STUMP);
                x.tell(7, 0);
                x.years(year);
                x.plant(6, kind);
                x.meet(3, 1);
                x.years(1);
                due("kind " + kind + " of 1 hears across in " + year, x.of(6, 5), young[kind]);
            }
        }
    }

    private static void told(int what, int[][] due, int year) {
        for (int kind = 0; kind < 6; kind++) {
            AvenueNods x = inYear(year);
            x.turn(6, kind);
            for (int i = 0; i < AGES.length; i++) {
                x.age(6, AGES[i]);
                due("of(6, " + what + "), kind " + kind + " of " + AGES[i] + " in " + year, x.of(6, what), due[kind][i]);
            }
        }
    }

    /**
     * TREE 2 an elm, TREE 3 a sapling of 0; TREE 0 is told in YEAR 0. 1 by nods in 1. 2 from below is due in 3, when elms
     * don't HEAR: 4. 3 from 1 is due in 4, when it is 5. 5 from 3: in 8 that is 9 and LEANS 4. 4 from 5 by nods: 9
     * (from 2, in 11). Then 7: 11, 6: 12, 9: 14, 8: 15, 11: 17, 10: 18.
     */
    @Says("A YEAR goes: AGE of each is 1 more (999 at most). Then each TREE that HEARS gets to KNOW since this YEAR each "
        + "message that it doesn't KNOW, and that the one below it (of which it is the one ABOVE) KNOWS since as many "
        + "years as that LEANS, or more, or that the one ACROSS KNOWS since as many as that NODS, or more, if the PAIR is "
        + "INTRODUCED (by what all KNEW as the YEAR began; since as many years: YEAR less since when). YEAR is 1 more.")
    static void termsAYearGoes() {
        int[] since = {0, 1, 4, 4, 9, 8, 12, 11, 15, 14, 18, 17};
        AvenueNods x = new AvenueNods();
        x.turn(2, ELM);
        x.plant(3, SAPLING);
        x.age(9, 990);
        x.tell(0, 6);
        for (int year = 0; year < 20; year++) {
            due("now(0)", x.now(0), year);
            due("of(3, 1)", x.of(3, 1), year);
            due("of(9, 1)", x.of(9, 1), Math.min(999, 990 + year));
            due("of(11, 1)", x.of(11, 1), 40 + year);
            for (int tree = 0; tree < 12; tree++) {
                boolean knows = tree == 0 || since[tree] < year;
                due("in " + year + ", since(" + tree + ", 6)", x.since(tree, 6), knows ? since[tree] : NONE);
            }
            due("years(1) in " + year, x.years(1), year < 17 ? 0 : 64);
        }
    }

    /** In YEAR 3: 0 is KNOWN by an elm, 1 by a stump, 2 by a lime; a sapling of 4 and a graft of 0 stand by. */
    @Says("A GALE: at once all TREES that HEAR get to KNOW, since this YEAR, all messages that any TREE KNOWS (GRAFTS as if "
        + "from the one ACROSS).")
    static void termsAGale() {
        AvenueNods x = inYear(3);
        x.turn(0, ELM);
        x.turn(1, STUMP);
        x.turn(4, OAK);
        x.plant(5, SAPLING);
        x.age(5, 4);
        x.plant(6, GRAFT);
        x.tell(0, 0);
        x.tell(1, 1);
        x.tell(2, 2);
        int[] known = {1, 2, 7, 7, 0, 0, 7, 7, 7, 7, 7, 7};
        due("gale(): two to TREE 2, three each to seven", x.gale(), 2 + 3 * 7);
        for (int tree = 0; tree < 12; tree++) {
            due("of(" + tree + ", 5)", x.of(tree, 5), known[tree]);
        }
        due("since(6, 1)", x.since(6, 1), 3);
        due("now(0)", x.now(0), 3);
        x.years(1);
        x.forget(1);
        x.forget(2);
        due("gale() in YEAR 4: to the oak and the sapling; the stump takes none", x.gale(), 2);
        due("since(4, 0)", x.since(4, 0), 4);
        due("since(5, 0)", x.since(5, 0), 4);
        due("since(7, 0)", x.since(7, 0), 3);
        due("of(1, 5)", x.of(1, 5), 0);
    }

    @Says("THE TEXT of an AVENUE, from THE TAPE (bytes, at most 120). TOKENS, each as long as can be: WORDS (letters a to "
        + "z), NUMBERS (digits, 999 at most), SIGN ; ; blanks may stand between. TEXT: ITEM { ; ITEM }.")
    static void termsTheText() {
        text("cut 0", 1);
        text("cut0;cut1;cut2", 3);
        text("  cut  0  ;  cut  1  ", 2);
        text("oak at 1 1age 7;elm at 2 0age999", 2);
        text("oak at 1 1age 1000", -1 - 14);
        text("oakat 1 1", -1);
        text("oak at 11", -1 - 7);
        text("cut 0;;cut 1", -1 - 6);
        text("cut 0 cut 1", -1 - 6);
        text("cut 0;", -1 - 6);
        text(";cut 0", -1);
        text("", -1);
        text("cut 0;" + " ".repeat(109) + "meet0", 2);
    }

    private static void text(String text, int due) {
        AvenueNods x = new AvenueNods();
        Checks.feedAll(x, text);
        due("avenue() of '" + text + "'", x.avenue(), due);
    }

    @Says("ITEM: the name of a KIND (lime elm sapling stump oak graft), at, two NUMBERS (a PLACE 0 to 5, a SIDE 0 or 1), "
        + "perhaps age and a NUMBER (0 to 999; 0 without): that TREE is so, and KNOWS nothing; cut or meet, a NUMBER (a "
        + "PLACE): the PAIR is INTRODUCED no more, or is; word, a NUMBER (0 to 7), a NUMBER (a SIDE): the message is KNOWN "
        + "by the TREE at PLACE 0 on it since this YEAR (whether it HEARS or not; nothing, if it KNOWS it).")
    static void termsItems() {
        AvenueNods x = new AvenueNods();
        x.tell(5, 1);
        x.tell(1, 4);
        x.meet(0, 0);
        x.years(8);
        Checks.feedAll(x, "oak at 2 1 age 17;graft at 5 0;cut 3;meet 0;word 7 0;word 4 1");
        due("avenue()", x.avenue(), 6);
        due("of(5, 0)", x.of(5, 0), OAK);
        due("of(5, 1)", x.of(5, 1), 17);
        due("of(5, 5)", x.of(5, 5), 0);
        due("of(10, 0)", x.of(10, 0), GRAFT);
        due("of(10, 1)", x.of(10, 1), 0);
        due("now(1)", x.now(1), 0b110111);
        due("since(0, 7)", x.since(0, 7), 8);
        due("since(1, 4)", x.since(1, 4), 0);
        due("count(0)", x.count(0), 2);
        Checks.feedAll(x, "word 2 1;stump at 0 1;word 3 1;lime at 2 1 age 999");
        due("avenue()", x.avenue(), 4);
        due("the stump KNOWS what was told behind it", x.of(1, 5), 1 << 3);
        due("of(5, 0)", x.of(5, 0), LIME);
        due("of(5, 1)", x.of(5, 1), 999);
    }

    @Says("FAULT: the place (from 0) of the first byte of the first TOKEN that can't stand there (a NUMBER that may not be, "
        + "another WORD, a byte that begins no TOKEN), or how many bytes there are if it ends too early.")
    static void termsFault() {
        text("cut 6", -1 - 4);
        text("elm at 5 2", -1 - 9);
        text("elm at 6 2", -1 - 7);
        text("word 8 0", -1 - 5);
        text("elm at 0 0 aged 3", -1 - 11);
        text("elms at 0 0", -1);
        text("elm by 0 0", -1 - 4);
        text("age 3", -1);
        text("cut -1", -1 - 4);
        text("cut 0,cut 1", -1 - 5);
        text("cut 0;Cut 1", -1 - 6);
        text("cut 0;elm at 0", -1 - 14);
        text("cut 0;elm at 0  ", -1 - 16);
        text("cut 0;word 1 1 1", -1 - 15);
        text("cut 6;cut 7", -1 - 4);
    }

    @Says("ON: n YEARS go on with all as it is; nothing changes. HOME: a message that one of the TREES at PLACE 5 KNOWS.")
    static void termsOnAndHome() {
        asked(Edges::some, "on(1, 200)", x -> x.on(1, 200), 0);
        asked(Edges::some, "when(10, 7)", x -> x.when(10, 7), 0);
        asked(Edges::some, "home(7)", x -> x.home(7), 0);
        asked(AvenueNods::new, "last(0)", x -> x.last(0), 0);
        for (int tree = 0; tree < 12; tree++) {
            AvenueNods x = new AvenueNods();
            x.tell(tree, 1);
            due("told to " + tree + ", now(2)", x.now(2), tree >= 10 ? 2 : 0);
            due("told to " + tree + ", home(1)", x.home(1), tree >= 10 ? 0 : 3 * (5 - tree / 2) + 1);
        }
    }

    @Says("SHEETS 0 to 3 are rows of at most 40 numbers of 8, 16 or 64 bits, or MISSING (at first).")
    static void termsSheets() {
        AvenueNods x = new AvenueNods();
        int[] bits = {8, 16, 64, 8};
        long[] left = {112, 4464, 70000, 112};
        for (int s = 0; s < 4; s++) {
            due("lays(" + s + ") at first", x.lays(s), MISSING);
            due("sheet(" + s + ", " + bits[s] + ", 41)", x.sheet(s, bits[s], 41), BEYOND);
            due("sheet(" + s + ", " + bits[s] + ", 40)", x.sheet(s, bits[s], 40), 40);
            for (int i = 0; i < 40; i++) {
                due("write(" + s + ", " + i + ", 70000)", x.write(s, i, 70000), 0);
            }
            due("write(" + s + ", 40, 0)", x.write(s, 40, 0), BEYOND);
            due("write(" + s + ", 39, 0)", x.write(s, 39, 0), left[s]);
        }
    }
}
