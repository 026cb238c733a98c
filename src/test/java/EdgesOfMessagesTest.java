/** The edges of promises 9 to 17: tell, forget, years, gale, now, on, when, home, last. */
public final class EdgesOfMessagesTest extends Edges {
    public static void main(String[] args) throws Exception {
        runAll(EdgesOfMessagesTest.class);
    }

    // ---- promise 9

    @Says("A TREE gets to KNOW a message, since this YEAR: how many KNOW it then.")
    static void promise9FromTheFirstToTheTwelfth() {
        AvenueNods x = new AvenueNods();
        for (int tree = 0; tree < 12; tree++) {
            due("tell(" + tree + ", 7)", x.tell(tree, 7), tree + 1);
        }
        due("of another", x.tell(11, 0), 1);
        changes(Edges::some, "tell(11, 0)", y -> y.tell(11, 0), 2, "since(11, 0)");
        changes(Edges::some, "tell(0, 7)", y -> y.tell(0, 7), 3, "since(0, 7)");
    }

    @Says("A TREE gets to KNOW a message")
    static void promise9AlsoOneThatDoesNotHear() {
        AvenueNods x = new AvenueNods();
        x.turn(0, STUMP);
        x.turn(1, ELM);
        x.plant(2, SAPLING);
        for (int tree = 0; tree < 3; tree++) {
            due("it doesn't HEAR", x.of(tree, 4), 0);
            due("tell(" + tree + ", 0)", x.tell(tree, 0), tree + 1);
        }
    }

    @Says("how many KNOW it then. BEYOND.")
    static void promise9TreesAre0To11() {
        for (int tree : outside(0, 11)) {
            refused("tell(" + tree + ", 0)", x -> x.tell(tree, 0), BEYOND);
        }
    }

    @Says("MESSAGES 0 to 7")
    static void promise9MessagesAre0To7() {
        for (int message : outside(0, 7)) {
            refused("tell(0, " + message + ")", x -> x.tell(0, message), BEYOND);
            refused("tell(11, " + message + ")", x -> x.tell(11, message), BEYOND);
        }
    }

    @Says("BEYOND. STATE: it KNOWS it.")
    static void promise9StateIfItKnowsIt() {
        refusedIn(Edges::some, "tell(0, 0), known since 4", x -> x.tell(0, 0), STATE);
        refusedIn(Edges::some, "tell(11, 7), known since 4", x -> x.tell(11, 7), STATE);
        refusedIn(Edges::some, "tell(3, 5), known since this YEAR", x -> x.tell(3, 5), STATE);
        refusedIn(Edges::most, "tell(5, 3)", x -> x.tell(5, 3), STATE);
    }

    // ---- promise 10

    @Says("Nobody KNOWS a message any more: how many did.")
    static void promise10FromNoneToAll() {
        changes(AvenueNods::new, "forget(0), known by none", x -> x.forget(0), 0);
        changes(Edges::some, "forget(1), known by none", x -> x.forget(1), 0);
        changes(Edges::some, "forget(0)", x -> x.forget(0), 1, "since(0, 0)");
        changes(Edges::some, "forget(7)", x -> x.forget(7), 2, "since(10, 7)", "since(11, 7)");
        AvenueNods x = most();
        due("forget(7), known by all", x.forget(7), 12);
        due("the others", x.now(3), 127);
        due("again", x.forget(7), 0);
        due("forget(0), known by all", x.forget(0), 12);
        due("the others", x.now(4), 6 * 12);
    }

    @Says("how many did. BEYOND.")
    static void promise10MessagesAre0To7() {
        for (int message : outside(0, 7)) {
            refused("forget(" + message + ")", x -> x.forget(message), BEYOND);
        }
    }

    // ---- promise 11

    @Says("n YEARS go (1 to 100)")
    static void promise11NIs1To100() {
        AvenueNods x = new AvenueNods();
        due("years(1)", x.years(1), 0);
        due("YEAR", x.now(0), 1);
        due("years(100)", x.years(100), 0);
        due("YEAR", x.now(0), 101);
        for (int n : outside(1, 100)) {
            refused("years(" + n + ")", y -> y.years(n), BEYOND);
        }
    }

    @Says("STATE: YEAR would be above 9999.")
    static void promise11YearIs9999AtMost() {
        AvenueNods x = inYear(9899);
        due("years(100) in 9899", x.years(100), 0);
        due("YEAR", x.now(0), 9999);
        AvenueNods y = inYear(9998);
        due("years(1) in 9998", y.years(1), 0);
        due("YEAR", y.now(0), 9999);
        refusedIn(() -> inYear(9900), "years(100) in 9900", z -> z.years(100), STATE);
        refusedIn(() -> inYear(9998), "years(2) in 9998", z -> z.years(2), STATE);
        refusedIn(Edges::most, "years(1) in 9999", z -> z.years(1), STATE);
        refusedIn(Edges::most, "years(100) in 9999", z -> z.years(100), STATE);
    }

    @Says("messages that are HOME then, as a set. BEYOND. STATE")
    static void promise11BeyondIsAskedAheadOfState() {
        refusedIn(Edges::most, "years(0) in 9999", x -> x.years(0), BEYOND);
        refusedIn(Edges::most, "years(101) in 9999", x -> x.years(101), BEYOND);
        refusedIn(Edges::most, "years(max) in 9999", x -> x.years(Integer.MAX_VALUE), BEYOND);
    }

    @Says("messages that are HOME then, as a set")
    static void promise11HomeAreNoneAndAll() {
        AvenueNods x = new AvenueNods();
        for (int message = 0; message < 8; message++) {
            x.tell(message % 2, message);
        }
        due("15 YEARS", x.years(15), 0);
        due("16 YEARS", x.years(1), 255);
        AvenueNods y = new AvenueNods();
        y.tell(10, 0);
        y.tell(11, 7);
        y.tell(9, 3);
        due("by either side", y.years(1), 129);
    }

    @Says("AGE of each is 1 more (999 at most).")
    static void promise11AgeIs999AtMost() {
        AvenueNods x = new AvenueNods();
        x.age(0, 0);
        x.age(1, 997);
        x.age(10, 998);
        x.age(11, 999);
        x.years(1);
        due("from 0", x.of(0, 1), 1);
        due("from 997", x.of(1, 1), 998);
        due("from 998", x.of(10, 1), 999);
        due("from 999", x.of(11, 1), 999);
        x.years(100);
        due("from 0", x.of(0, 1), 101);
        due("from 997", x.of(1, 1), 999);
        due("from 998", x.of(10, 1), 999);
    }

    /** In which YEAR a lime gets to KNOW what one of a KIND was told in YEAR 0, by leaning or by nodding. */
    private static void toldOn(int kind, int age, boolean leans, int due) {
        for (int side = 0; side < 2; side++) {
            int teller = 4 + side;
            int listener = leans ? teller + 2 : 5 - side;
            AvenueNods x = cut();
            x.meet(2, leans ? 0 : 1);
            x.turn(leans ? 5 - side : teller + 2, STUMP);
            x.turn(teller, kind);
            x.age(teller, age);
            x.tell(teller, 6);
            String told = (leans ? "leant by kind " : "nodded by kind ") + kind + " of " + age + " on side " + side;
            goTo(x, due);
            due(told + ", a YEAR too early", x.of(listener, 5), 0);
            x.years(1);
            due(told, x.since(listener, 6), due);
            due(told + ", TREES that KNOW it", x.count(3), 2);
        }
    }

    @Says("that the one below it (of which it is the one ABOVE) KNOWS since as many years as that LEANS, or more")
    static void promise11LeansAreJustSoMany() {
        toldOn(LIME, 40, true, 3);
        toldOn(ELM, 40, true, 7);
        toldOn(SAPLING, 40, true, 3);
        toldOn(OAK, 40, true, 14);
        toldOn(GRAFT, 40, true, 1);
        toldOn(STUMP, 40, true, 999);
    }

    @Says("or that the one ACROSS KNOWS since as many as that NODS, or more, if the PAIR is INTRODUCED")
    static void promise11NodsAreJustSoMany() {
        toldOn(LIME, 40, false, 1);
        toldOn(ELM, 40, false, 2);
        toldOn(SAPLING, 40, false, 1);
        toldOn(OAK, 40, false, 2);
        toldOn(GRAFT, 40, false, 1);
        toldOn(STUMP, 40, false, 999);
    }

    /** In YEAR y it is y + 1 years older: a sapling of 0 LEANS 12 less y then, and a graft 10 less y. */
    @Says("A YEAR goes: AGE of each is 1 more (999 at most). Then each TREE that HEARS")
    static void promise11LeansAndNodsGoByTheNewAge() {
        toldOn(SAPLING, 0, true, 6);
        toldOn(SAPLING, 5, true, 4);
        toldOn(SAPLING, 6, true, 3);
        toldOn(GRAFT, 0, true, 5);
        toldOn(GRAFT, 7, true, 2);
        toldOn(GRAFT, 8, true, 1);
        toldOn(SAPLING, 17, false, 2);
        toldOn(SAPLING, 18, false, 1);
        toldOn(GRAFT, 17, false, 2);
        toldOn(GRAFT, 18, false, 1);
    }

    /** In which YEAR one of a KIND gets to KNOW what a lime was told in a YEAR, by leaning or by nodding. */
    private static void heard(int kind, int age, int year, boolean leans, int due) {
        for (int side = 0; side < 2; side++) {
            int listener = 6 + side;
            AvenueNods x = inYear(year);
            Checks.cutAll(x);
            x.meet(3, leans ? 0 : 1);
            x.turn(listener, kind);
            x.age(listener, age);
            x.tell(leans ? listener - 2 : 7 - side, 1);
            goTo(x, due + 1);
            String told = "kind " + kind + " of " + age + (leans ? " from below" : " from ACROSS") + " in " + year;
            due(told, x.since(listener, 1), due);
        }
    }

    @Says("SAPLING: from an AGE of 5 on.")
    static void promise11SaplingsHearInTheYearInWhichTheyAre5() {
        heard(SAPLING, 0, 0, true, 4);
        heard(SAPLING, 1, 0, true, 3);
        heard(SAPLING, 0, 0, false, 4);
        heard(SAPLING, 3, 0, false, 1);
    }

    @Says("or from the one ACROSS at any AGE")
    static void promise11GraftsHearFromAcrossAtOnce() {
        heard(GRAFT, 0, 0, true, 4);
        heard(GRAFT, 1, 0, true, 3);
        heard(GRAFT, 0, 0, false, 1);
        heard(GRAFT, 0, 7, false, 8);
    }

    @Says("ELM: but in YEARS whose rest by 3 is 0 not.")
    static void promise11ElmsAndOaksHearInTheYearBehind() {
        for (int kind : new int[] {ELM, OAK}) {
            heard(kind, 40, 0, true, 4);
            heard(kind, 40, 1, true, 4);
            heard(kind, 40, 2, true, 5);
            heard(kind, 40, 3, true, 7);
            heard(kind, 40, 0, false, 1);
            heard(kind, 40, 1, false, 2);
            heard(kind, 40, 2, false, 4);
            heard(kind, 0, 2, false, 4);
        }
    }

    @Says("STUMP: no.")
    static void promise11StumpsHearNothing() {
        AvenueNods x = new AvenueNods();
        x.turn(4, STUMP);
        for (int tree = 0; tree < 12; tree++) {
            if (tree != 4) {
                x.tell(tree, 0);
            }
        }
        goTo(x, 9999);
        due("of(4, 5)", x.of(4, 5), 0);
    }

    @Says("if the PAIR is INTRODUCED")
    static void promise11NoNodsWhereThePairIsNot() {
        AvenueNods x = cut();
        x.tell(0, 0);
        goTo(x, 9999);
        due("side 0", x.now(2), 1);
        due("TREES that KNOW it", x.count(3), 6);
        for (int place = 0; place < 6; place++) {
            due("side 1 at " + place, x.of(2 * place + 1, 5), 0);
        }
    }

    @Says("(by what all KNEW as the YEAR began")
    static void promise11OnePlaceAYear() {
        AvenueNods x = cut();
        for (int tree = 0; tree < 12; tree++) {
            x.turn(tree, GRAFT);
        }
        x.tell(0, 0);
        x.tell(1, 1);
        for (int year = 0; year < 6; year++) {
            due("TREES in " + year, x.count(3), Math.max(2, 2 * year));
            x.years(1);
        }
        for (int place = 1; place < 6; place++) {
            due("since on side 0 at " + place, x.since(2 * place, 0), place);
            due("since on side 1 at " + place, x.since(2 * place + 1, 1), place);
        }
        AvenueNods y = new AvenueNods();
        y.turn(0, GRAFT);
        y.turn(3, GRAFT);
        y.tell(0, 0);
        y.years(4);
        due("leant", y.since(2, 0), 1);
        due("nodded", y.since(1, 0), 1);
        due("nodded on by who was leant to", y.since(3, 0), 2);
        due("leant on by that", y.since(5, 0), 3);
    }

    @Says("(none above PLACE 5)")
    static void promise11FromTheTerraceItGoesNowhereButAcross() {
        AvenueNods x = new AvenueNods();
        x.tell(11, 0);
        goTo(x, 9999);
        due("TREE 10", x.since(10, 0), 1);
        due("TREES that KNOW it", x.count(3), 2);
        AvenueNods y = new AvenueNods();
        y.tell(4, 0);
        goTo(y, 9999);
        due("from PLACE 2 it goes up alone", y.count(3), 8);
        due("not to PLACE 1", y.of(2, 5) | y.of(3, 5), 0);
    }

    @Says("gets to KNOW since this YEAR each message that it doesn't KNOW")
    static void promise11WhatItKnowsIsKnownSinceThen() {
        AvenueNods x = new AvenueNods();
        x.tell(0, 0);
        x.tell(1, 0);
        x.years(2);
        x.tell(2, 0);
        x.years(100);
        due("told in YEAR 2, due in 3", x.since(2, 0), 2);
        due("leant, and nodded, in YEAR 3", x.since(3, 0), 3);
        due("told in YEAR 0", x.since(1, 0), 0);
        AvenueNods y = new AvenueNods();
        for (int message = 0; message < 8; message++) {
            y.tell(0, message);
        }
        y.years(2);
        due("all 8 in one YEAR", y.of(1, 5), 255);
    }

    @Says("YEAR is 1 more.")
    static void promise11NothingElseChanges() {
        String[] ages = new String[13];
        for (int tree = 0; tree < 12; tree++) {
            ages[tree] = "of(" + tree + ", 1)";
        }
        ages[12] = "now(0)";
        changes(AvenueNods::new, "years(1)", x -> x.years(1), 0, ages);
        changes(Edges::some, "years(1), in which nothing is told", x -> x.years(1), 128, ages);
    }

    // ---- promise 12

    @Says("A GALE: how many got to KNOW something that they didn't (each message counted).")
    static void promise12FromNoneTo88() {
        changes(AvenueNods::new, "gale() of nothing", AvenueNods::gale, 0);
        changes(Edges::most, "gale(), all being known by all", AvenueNods::gale, 0);
        AvenueNods x = new AvenueNods();
        for (int message = 0; message < 8; message++) {
            x.tell(11, message);
        }
        due("gale() of 8 messages to 11", x.gale(), 88);
        due("gale() again", x.gale(), 0);
        due("now(4)", x.now(4), 96);
        AvenueNods y = new AvenueNods();
        y.tell(0, 7);
        due("gale() of 1 message to 11", y.gale(), 11);
        y.plant(5, LIME);
        due("gale() to 1", y.gale(), 1);
    }

    @Says("at once all TREES that HEAR get to KNOW, since this YEAR, all messages that any TREE KNOWS")
    static void promise12AlsoWhatOnlyAStumpKnows() {
        AvenueNods x = inYear(9999);
        Checks.cutAll(x);
        for (int tree = 0; tree < 11; tree++) {
            x.turn(tree, STUMP);
        }
        x.tell(5, 3);
        due("gale() to the one lime", x.gale(), 1);
        due("since", x.since(11, 3), 9999);
        x.turn(11, STUMP);
        x.tell(0, 0);
        due("gale() to stumps alone", x.gale(), 0);
    }

    private static void blownTo(int kind, int age, int year, int due) {
        AvenueNods x = inYear(year);
        x.turn(6, kind);
        x.age(6, age);
        x.tell(0, 4);
        due("gale() with kind " + kind + " of " + age + " in " + year, x.gale(), 10 + due);
        due("of(6, 5), kind " + kind + " of " + age + " in " + year, x.of(6, 5), due == 1 ? 16 : 0);
    }

    @Says("SAPLING: from an AGE of 5 on.")
    static void promise12SaplingsFrom5On() {
        blownTo(SAPLING, 0, 1, 0);
        blownTo(SAPLING, 4, 1, 0);
        blownTo(SAPLING, 5, 1, 1);
    }

    @Says("(GRAFTS as if from the one ACROSS)")
    static void promise12GraftsAtAnyAge() {
        blownTo(GRAFT, 0, 0, 1);
        blownTo(GRAFT, 4, 0, 1);
        blownTo(GRAFT, 5, 0, 1);
    }

    @Says("ELM: but in YEARS whose rest by 3 is 0 not.")
    static void promise12ElmsAndOaksByTheYear() {
        for (int kind : new int[] {ELM, OAK}) {
            blownTo(kind, 40, 0, 0);
            blownTo(kind, 40, 1, 1);
            blownTo(kind, 40, 2, 1);
            blownTo(kind, 40, 3, 0);
            blownTo(kind, 40, 9998, 1);
            blownTo(kind, 40, 9999, 0);
        }
    }

    @Says("A GALE: at once")
    static void promise12NothingElseChanges() {
        State state = () -> {
            AvenueNods x = some();
            for (int tree = 0; tree < 10; tree++) {
                x.turn(tree, STUMP);
            }
            x.forget(5);
            x.forget(2);
            return x;
        };
        changes(state, "gale()", AvenueNods::gale, 2, "since(10, 0)", "since(11, 0)");
    }

    // ---- promise 13

    @Says("5 AGES of all together. BEYOND.")
    static void promise13WhatIs0To5() {
        asked(Edges::some, "now(0)", x -> x.now(0), 6);
        asked(Edges::some, "now(5)", x -> x.now(5), 10 * 46 + 5 + 2);
        for (int what : outside(0, 5)) {
            refused("now(" + what + ")", x -> x.now(what), BEYOND);
        }
    }

    @Says("What 0 YEAR, 1 PAIRS that are INTRODUCED, as a set, 2 messages that are HOME, as a set, 3 messages that anybody "
        + "KNOWS, as a set, 4 how many are KNOWN, counted by TREES, 5 AGES of all together.")
    static void promise13TheLeastAndTheMost() {
        long[] least = {0, 63, 0, 0, 0, 480};
        long[] among = {6, 36, 128, 165, 5, 467};
        long[] most = {9999, 63, 255, 255, 96, 12 * 999};
        for (int i = 0; i < 6; i++) {
            int what = i;
            asked(AvenueNods::new, "now(" + what + ") of nothing", x -> x.now(what), least[what]);
            asked(Edges::some, "now(" + what + ") of something", x -> x.now(what), among[what]);
            asked(Edges::most, "now(" + what + ") of all", x -> x.now(what), most[what]);
        }
        due("no PAIR", cut().now(1), 0);
        AvenueNods x = new AvenueNods();
        for (int tree = 0; tree < 12; tree++) {
            x.age(tree, 0);
        }
        due("AGES of 0", x.now(5), 0);
    }

    @Says("HOME: a message that one of the TREES at PLACE 5 KNOWS.")
    static void promise13HomeIsPlace5Alone() {
        AvenueNods x = new AvenueNods();
        x.tell(8, 1);
        x.tell(9, 2);
        due("at PLACE 4", x.now(2), 0);
        x.tell(10, 3);
        due("TREE 10", x.now(2), 8);
        x.tell(11, 4);
        due("TREE 11", x.now(2), 24);
        x.tell(11, 3);
        due("both", x.now(2), 24);
    }

    // ---- promise 14

    @Says("ON n YEARS (0 to 200), as a set. BEYOND.")
    static void promise14NIs0To200() {
        asked(Edges::some, "on(11, 0)", x -> x.on(11, 0), 128);
        asked(Edges::some, "on(11, 200)", x -> x.on(11, 200), 128 + 32 + 1);
        for (int n : outside(0, 200)) {
            refused("on(0, " + n + ")", x -> x.on(0, n), BEYOND);
            refused("on(11, " + n + ")", x -> x.on(11, n), BEYOND);
            refused("on(12, " + n + "), counted once", x -> x.on(12, n), BEYOND);
        }
    }

    @Says("Messages that a TREE KNOWS ON n YEARS")
    static void promise14TreesAre0To11() {
        asked(Edges::most, "on(0, 200)", x -> x.on(0, 200), 255);
        asked(AvenueNods::new, "on(11, 200)", x -> x.on(11, 200), 0);
        for (int tree : outside(0, 11)) {
            refused("on(" + tree + ", 0)", x -> x.on(tree, 0), BEYOND);
            refused("on(" + tree + ", 200)", x -> x.on(tree, 200), BEYOND);
        }
    }

    /** TREE 8, a stump, was told in YEAR 0: it tells TREE 10 in YEAR 999, and nothing else goes on. */
    private static AvenueNods stumpTellsIn999(int year) {
        AvenueNods x = cut();
        x.turn(8, STUMP);
        x.tell(8, 0);
        goTo(x, year);
        return x;
    }

    @Says("ON: n YEARS go on with all as it is; nothing changes.")
    static void promise14The200thYearCounts() {
        asked(() -> stumpTellsIn999(800), "on(10, 199)", x -> x.on(10, 199), 0);
        asked(() -> stumpTellsIn999(800), "on(10, 200)", x -> x.on(10, 200), 1);
        asked(() -> stumpTellsIn999(799), "on(10, 200)", x -> x.on(10, 200), 0);
    }

    /** The document holds `years` at 9999, not ON, in which no YEAR goes. */
    @Says("ON: n YEARS go on with all as it is; nothing changes.")
    static void promise14OnGoesPast9999() {
        AvenueNods x = inYear(9999);
        x.turn(2, ELM);
        x.meet(1, 0);
        x.tell(0, 0);
        due("not yet by side 1", x.on(11, 16), 0);
        due("by side 1", x.on(11, 17), 1);
        due("the elm HEARS in YEAR 10003, not in 10002", x.when(2, 0), 5);
        due("YEAR", x.now(0), 9999);
    }

    // ---- promise 15

    @Says("In how many YEARS (0 to 200) ON a TREE KNOWS a message first.")
    static void promise15From0To200() {
        asked(Edges::some, "when(0, 0)", x -> x.when(0, 0), 0);
        asked(Edges::some, "when(11, 7)", x -> x.when(11, 7), 0);
        asked(() -> stumpTellsIn999(800), "when(10, 0) in 800", x -> x.when(10, 0), 200);
        asked(() -> stumpTellsIn999(999), "when(10, 0) in 999", x -> x.when(10, 0), 1);
        asked(() -> stumpTellsIn999(1000), "when(10, 0) in 1000", x -> x.when(10, 0), 0);
    }

    @Says("MESSAGES 0 to 7")
    static void promise15EachMessageGoesOn() {
        for (int message = 0; message < 8; message++) {
            AvenueNods x = new AvenueNods();
            x.tell(0, message);
            due("when(1, " + message + ")", x.when(1, message), 2);
            due("when(11, " + message + ")", x.when(11, message), 17);
            due("home(" + message + ")", x.home(message), 16);
            due("last(" + message + ")", x.last(message), 11);
        }
    }

    @Says("first. BEYOND. NONE.")
    static void promise15NoneWhatIsNotIn200() {
        refusedIn(() -> stumpTellsIn999(799), "when(10, 0) in 799", x -> x.when(10, 0), NONE);
        refusedIn(() -> stumpTellsIn999(800), "when(9, 0) in 800", x -> x.when(9, 0), NONE);
        refusedIn(AvenueNods::new, "when(0, 0) of nothing", x -> x.when(0, 0), NONE);
        refusedIn(Edges::some, "when(9, 2)", x -> x.when(9, 2), NONE);
    }

    @Says("BEYOND. NONE.")
    static void promise15TreesAndMessages() {
        for (int tree : outside(0, 11)) {
            refused("when(" + tree + ", 0)", x -> x.when(tree, 0), BEYOND);
            refused("when(" + tree + ", 8), counted once", x -> x.when(tree, 8), BEYOND);
        }
        for (int message : outside(0, 7)) {
            refused("when(0, " + message + ")", x -> x.when(0, message), BEYOND);
            refused("when(11, " + message + ")", x -> x.when(11, message), BEYOND);
        }
    }

    // ---- promise 16

    @Says("In how many YEARS (0 to 200) ON a message is HOME first.")
    static void promise16From0To200() {
        asked(Edges::some, "home(7)", x -> x.home(7), 0);
        asked(Edges::most, "home(0)", x -> x.home(0), 0);
        asked(() -> stumpTellsIn999(800), "home(0) in 800", x -> x.home(0), 200);
        asked(() -> stumpTellsIn999(999), "home(0) in 999", x -> x.home(0), 1);
        asked(() -> stumpTellsIn999(1000), "home(0) in 1000", x -> x.home(0), 0);
    }

    @Says("HOME first. BEYOND. NONE.")
    static void promise16NoneWhatIsNotIn200() {
        refusedIn(() -> stumpTellsIn999(799), "home(0) in 799", x -> x.home(0), NONE);
        refusedIn(AvenueNods::new, "home(0) of nothing", x -> x.home(0), NONE);
        refusedIn(Edges::some, "home(1), known by none", x -> x.home(1), NONE);
        refusedIn(Edges::some, "home(2), known by a stump", x -> x.home(2), NONE);
    }

    @Says("MESSAGES 0 to 7")
    static void promise16MessagesAre0To7() {
        for (int message : outside(0, 7)) {
            refused("home(" + message + ")", x -> x.home(message), BEYOND);
        }
    }

    // ---- promise 17

    @Says("of several the least. BEYOND.")
    static void promise17NoneOrAllKnowIt() {
        asked(AvenueNods::new, "last(0), known by none", x -> x.last(0), 0);
        asked(Edges::some, "last(1), known by none", x -> x.last(1), 0);
        asked(Edges::most, "last(7), known by all", x -> x.last(7), 0);
    }

    private static AvenueNods allButTheTerraceKnow(int year, int tree) {
        AvenueNods x = stumpTellsIn999(year);
        for (int other = 0; other < 10; other++) {
            if (other != 8) {
                x.tell(other, 0);
            }
        }
        if (tree >= 0) {
            x.plant(tree, STUMP);
        }
        return x;
    }

    @Says("(within 200 YEARS; one that doesn't at all later than all)")
    static void promise17One200YearsOnIsAheadOfOneThatDoesNotAtAll() {
        asked(() -> allButTheTerraceKnow(800, -1), "last(0), TREE 10 in 200", x -> x.last(0), 10);
        asked(() -> allButTheTerraceKnow(800, 11), "last(0), 10 in 200, 11 never", x -> x.last(0), 11);
        asked(() -> allButTheTerraceKnow(800, 3), "last(0), 10 in 200, 3 never", x -> x.last(0), 3);
        asked(() -> allButTheTerraceKnow(799, 11), "last(0), 10 in 201, 11 never", x -> x.last(0), 10);
    }

    @Says("The TREE that KNOWS a message last of all ON")
    static void promise17FromTree0ToTree11() {
        AvenueNods x = new AvenueNods();
        x.tell(0, 0);
        due("TREE 11", x.last(0), 11);
        AvenueNods y = new AvenueNods();
        y.tell(1, 0);
        due("TREE 10", y.last(0), 10);
        for (int tree = 2; tree < 12; tree++) {
            y.tell(tree, 0);
        }
        due("TREE 0", y.last(0), 0);
        for (int tree = 0; tree < 12; tree++) {
            AvenueNods z = new AvenueNods();
            for (int other = 0; other < 12; other++) {
                if (other != tree) {
                    z.tell(other, 0);
                }
            }
            due("the one that doesn't KNOW it yet", z.last(0), tree);
        }
    }

    @Says("MESSAGES 0 to 7")
    static void promise17MessagesAre0To7() {
        for (int message : outside(0, 7)) {
            refused("last(" + message + ")", x -> x.last(message), BEYOND);
        }
    }
}
