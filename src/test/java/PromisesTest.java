/**
 * The promises from the first to the last, each quoted whole, with ordinary inputs and with each finding that it names.
 * All answers that are due here were reckoned by hand from the promise.
 */
public final class PromisesTest extends Edges {
    public static void main(String[] args) throws Exception {
        runAll(PromisesTest.class);
    }

    // ---- trees

    @Says("Limes alone, nothing known; THE TAPE is empty, no image is kept.")
    static void promise1NewObject() {
        AvenueNods x = new AvenueNods();
        due("count(0)", x.count(0), 0);
        due("count(1)", x.count(1), 0);
        due("count(2)", x.count(2), 6);
        due("count(3)", x.count(3), 0);
        due("now(0)", x.now(0), 0);
        due("now(3)", x.now(3), 0);
        due("now(5)", x.now(5), 12 * 40);
        due("tear()", x.tear(), 0);
        due("status(-1)", x.status(-1), 0);
    }

    @Says("Of a TREE: what 0 KIND, 1 AGE, 2 LEANS, 3 NODS, 4 1 if it HEARS from the one below it this YEAR, else 0, 5 "
        + "messages that it KNOWS, as a set. BEYOND.")
    static void promise2Of() {
        AvenueNods x = inYear(4);
        x.plant(7, GRAFT);
        x.age(7, 3);
        x.tell(7, 1);
        x.tell(7, 6);
        int[] graft = {5, 3, 8, 2, 0, 66};
        x.turn(8, OAK);
        int[] oak = {4, 44, 14, 2, 1, 0};
        for (int what = 0; what < 6; what++) {
            due("of(7, " + what + ")", x.of(7, what), graft[what]);
            due("of(8, " + what + ")", x.of(8, what), oak[what]);
        }
        refused("of(12, 0)", y -> y.of(12, 0), BEYOND);
        refused("of(0, 6)", y -> y.of(0, 6), BEYOND);
    }

    @Says("Since when a TREE KNOWS a message. BEYOND. NONE: it doesn't.")
    static void promise3Since() {
        AvenueNods x = inYear(12);
        x.tell(2, 3);
        x.years(9);
        due("told", x.since(2, 3), 12);
        due("by nods", x.since(3, 3), 13);
        due("leaned", x.since(4, 3), 15);
        refused("since(12, 0)", y -> y.since(12, 0), BEYOND);
        refused("since(0, 8)", y -> y.since(0, 8), BEYOND);
        refusedIn(Edges::some, "since(0, 1)", y -> y.since(0, 1), NONE);
    }

    @Says("A TREE is felled and another one of a KIND is set, AGE 0, that KNOWS nothing: the KIND that it was. BEYOND.")
    static void promise4Plant() {
        AvenueNods x = new AvenueNods();
        x.tell(6, 0);
        due("plant(6, 1)", x.plant(6, ELM), LIME);
        due("of(6, 0)", x.of(6, 0), ELM);
        due("of(6, 1)", x.of(6, 1), 0);
        due("of(6, 5)", x.of(6, 5), 0);
        due("plant(6, 2)", x.plant(6, SAPLING), ELM);
        refused("plant(-1, 0)", y -> y.plant(-1, 0), BEYOND);
        refused("plant(0, 6)", y -> y.plant(0, 6), BEYOND);
    }

    @Says("A TREE becomes one of another KIND (AGE, what it KNOWS stay): what it was. BEYOND.")
    static void promise5Turn() {
        AvenueNods x = new AvenueNods();
        x.years(2);
        x.tell(6, 0);
        due("turn(6, 4)", x.turn(6, OAK), LIME);
        due("turn(6, 3)", x.turn(6, STUMP), OAK);
        due("of(6, 0)", x.of(6, 0), STUMP);
        due("of(6, 1)", x.of(6, 1), 42);
        due("since(6, 0)", x.since(6, 0), 2);
        refused("turn(12, 0)", y -> y.turn(12, 0), BEYOND);
        refused("turn(0, -1)", y -> y.turn(0, -1), BEYOND);
    }

    @Says("AGE of a TREE becomes v: what it was. BEYOND.")
    static void promise6Age() {
        AvenueNods x = new AvenueNods();
        due("age(9, 0)", x.age(9, 0), 40);
        due("age(9, 999)", x.age(9, 999), 0);
        due("age(9, 7)", x.age(9, 7), 999);
        due("of(9, 1)", x.of(9, 1), 7);
        due("now(5)", x.now(5), 11 * 40 + 7);
        refused("age(12, 0)", y -> y.age(12, 0), BEYOND);
        refused("age(0, 1000)", y -> y.age(0, 1000), BEYOND);
    }

    @Says("A TREE as one of a kind: AGE. BEYOND: no such tree, kind. KIND: it isn't of that kind, nor of one under it.")
    static void promise7As() {
        AvenueNods x = new AvenueNods();
        x.turn(1, GRAFT);
        x.age(1, 12);
        due("a graft as a graft", x.as(1, GRAFT), 12);
        due("a graft as a sapling", x.as(1, SAPLING), 12);
        due("a graft as a lime", x.as(1, LIME), 12);
        due("a graft as an elm", x.as(1, ELM), KIND);
        due("a lime as a graft", x.as(0, GRAFT), KIND);
        refused("as(12, 0)", y -> y.as(12, 0), BEYOND);
        refused("as(0, 6)", y -> y.as(0, 6), BEYOND);
        refusedIn(Edges::some, "as(2, 4), an elm", y -> y.as(2, OAK), KIND);
    }

    @Says("A PAIR is INTRODUCED (v 1) or not (0): what it was. BEYOND.")
    static void promise8Meet() {
        AvenueNods x = new AvenueNods();
        due("meet(3, 1)", x.meet(3, 1), 1);
        due("meet(3, 0)", x.meet(3, 0), 1);
        due("now(1)", x.now(1), 63 - 8);
        x.tell(6, 0);
        x.years(5);
        due("of(7, 5)", x.of(7, 5), 0);
        due("meet(3, 1)", x.meet(3, 1), 0);
        x.years(1);
        due("since(7, 0)", x.since(7, 0), 5);
        refused("meet(6, 0)", y -> y.meet(6, 0), BEYOND);
        refused("meet(0, 2)", y -> y.meet(0, 2), BEYOND);
    }

    // ---- messages

    @Says("A TREE gets to KNOW a message, since this YEAR: how many KNOW it then. BEYOND. STATE: it KNOWS it.")
    static void promise9Tell() {
        AvenueNods x = inYear(6);
        due("tell(3, 2)", x.tell(3, 2), 1);
        due("tell(8, 2)", x.tell(8, 2), 2);
        due("tell(8, 1)", x.tell(8, 1), 1);
        due("since(8, 2)", x.since(8, 2), 6);
        due("of(8, 5)", x.of(8, 5), 6);
        refused("tell(12, 0)", y -> y.tell(12, 0), BEYOND);
        refused("tell(0, 8)", y -> y.tell(0, 8), BEYOND);
        refusedIn(Edges::some, "tell(3, 5)", y -> y.tell(3, 5), STATE);
    }

    @Says("Nobody KNOWS a message any more: how many did. BEYOND.")
    static void promise10Forget() {
        AvenueNods x = new AvenueNods();
        x.tell(0, 0);
        x.tell(0, 1);
        x.gale();
        due("forget(0)", x.forget(0), 12);
        due("now(3)", x.now(3), 2);
        due("forget(0)", x.forget(0), 0);
        due("tell(5, 0)", x.tell(5, 0), 1);
        refused("forget(8)", y -> y.forget(8), BEYOND);
    }

    @Says("n YEARS go (1 to 100): messages that are HOME then, as a set. BEYOND. STATE: YEAR would be above 9999.")
    static void promise11Years() {
        AvenueNods x = new AvenueNods();
        x.tell(0, 0);
        x.tell(4, 2);
        x.tell(1, 7);
        due("years(9)", x.years(9), 0);
        due("years(1), from place 2 in YEAR 9", x.years(1), 4);
        due("years(6), from the gate in YEAR 15", x.years(6), 133);
        due("now(0)", x.now(0), 16);
        refused("years(0)", y -> y.years(0), BEYOND);
        refused("years(101)", y -> y.years(101), BEYOND);
        refusedIn(() -> inYear(9950), "years(50) in 9950", y -> y.years(50), STATE);
    }

    @Says("A GALE: how many got to KNOW something that they didn't (each message counted).")
    static void promise12Gale() {
        AvenueNods x = new AvenueNods();
        due("nothing is known", x.gale(), 0);
        x.tell(0, 0);
        x.tell(0, 1);
        x.tell(5, 1);
        x.turn(11, STUMP);
        due("0 to ten, 1 to nine", x.gale(), 10 + 9);
        due("again", x.gale(), 0);
    }

    @Says("What 0 YEAR, 1 PAIRS that are INTRODUCED, as a set, 2 messages that are HOME, as a set, 3 messages that anybody "
        + "KNOWS, as a set, 4 how many are KNOWN, counted by TREES, 5 AGES of all together. BEYOND.")
    static void promise13Now() {
        AvenueNods x = inYear(3);
        x.meet(5, 0);
        x.tell(10, 1);
        x.tell(2, 1);
        x.tell(2, 6);
        x.plant(7, ELM);
        int[] told = {3, 31, 2, 66, 3, 11 * 43};
        for (int what = 0; what < 6; what++) {
            due("now(" + what + ")", x.now(what), told[what]);
        }
        refused("now(6)", y -> y.now(6), BEYOND);
    }

    /** Limes, TREE 0 told 0 in YEAR 0: side 0 KNOWS it since 0, 3, 6, .. 15, side 1 a YEAR behind each. */
    private static AvenueNods told() {
        AvenueNods x = new AvenueNods();
        x.tell(0, 0);
        return x;
    }

    @Says("Messages that a TREE KNOWS ON n YEARS (0 to 200), as a set. BEYOND.")
    static void promise14On() {
        for (int place = 0; place < 6; place++) {
            int tree = 2 * place;
            int years = place == 0 ? 0 : 3 * place + 1;
            asked(PromisesTest::told, "on(" + tree + ", " + years + ")", x -> x.on(tree, years), 1);
            if (place > 0) {
                asked(PromisesTest::told, "on(" + tree + ", " + (years - 1) + ")", x -> x.on(tree, years - 1), 0);
            }
        }
        refused("on(12, 0)", x -> x.on(12, 0), BEYOND);
        refused("on(0, 201)", x -> x.on(0, 201), BEYOND);
    }

    @Says("In how many YEARS (0 to 200) ON a TREE KNOWS a message first. BEYOND. NONE.")
    static void promise15When() {
        int[] when = {0, 2, 4, 5, 7, 8, 10, 11, 13, 14, 16, 17};
        for (int t = 0; t < 12; t++) {
            int tree = t;
            asked(PromisesTest::told, "when(" + tree + ", 0)", x -> x.when(tree, 0), when[tree]);
        }
        refused("when(12, 0)", x -> x.when(12, 0), BEYOND);
        refused("when(0, 8)", x -> x.when(0, 8), BEYOND);
        refusedIn(PromisesTest::told, "when(0, 1)", x -> x.when(0, 1), NONE);
    }

    @Says("In how many YEARS (0 to 200) ON a message is HOME first. BEYOND. NONE.")
    static void promise16Home() {
        asked(PromisesTest::told, "home(0)", x -> x.home(0), 16);
        AvenueNods y = told();
        y.turn(10, STUMP);
        due("over the way", y.home(0), 17);
        y.tell(9, 0);
        due("from place 4", y.home(0), 4);
        y.tell(10, 0);
        due("home", y.home(0), 0);
        refused("home(8)", x -> x.home(8), BEYOND);
        refusedIn(PromisesTest::told, "home(1)", x -> x.home(1), NONE);
    }

    @Says("The TREE that KNOWS a message last of all ON (within 200 YEARS; one that doesn't at all later than all); of "
        + "several the least. BEYOND.")
    static void promise17Last() {
        asked(PromisesTest::told, "last(0)", x -> x.last(0), 11);
        asked(PromisesTest::told, "last(1), that none KNOWS", x -> x.last(1), 0);
        AvenueNods y = told();
        y.turn(3, STUMP);
        due("a stump never", y.last(0), 3);
        y.turn(3, LIME);
        y.tell(10, 0);
        y.tell(11, 0);
        due("9, in YEAR 13", y.last(0), 9);
        refused("last(8)", x -> x.last(8), BEYOND);
    }

    // ---- what is best

    /** No PAIR is INTRODUCED, TREE 2 is an elm; TREE 0 told 0. The elm in 4, then 11, 14, 17, 20: HOME in 21 YEARS. */
    private static AvenueNods heldUp() {
        AvenueNods x = cut();
        x.turn(2, ELM);
        x.tell(0, 0);
        return x;
    }

    /** At 0: 1, 4, 7, .. 16 on side 1, HOME in 17. At 1: the elm nods in 6, then 9, .. 18, HOME in 19. At 2: not sooner. */
    @Says("The PLACE at which, were the PAIR INTRODUCED now (one that isn't), a message is HOME soonest (within 200 YEARS), "
        + "sooner than as it is; of several the least. BEYOND. NONE.")
    static void promise18Introduce() {
        asked(PromisesTest::heldUp, "home(0)", x -> x.home(0), 21);
        asked(PromisesTest::heldUp, "introduce(0)", x -> x.introduce(0), 0);
        AvenueNods y = heldUp();
        y.turn(1, STUMP);
        due("a stump at 0", y.introduce(0), 1);
        y.meet(1, 1);
        due("home by 1", y.home(0), 19);
        due("none is sooner then", y.introduce(0), NONE);
        AvenueNods z = heldUp();
        z.turn(6, STUMP);
        due("held up for good: by 0 the soonest", z.introduce(0), 0);
        z.turn(1, STUMP);
        z.turn(3, STUMP);
        due("by 2 alone", z.introduce(0), 2);
        refused("introduce(8)", x -> x.introduce(8), BEYOND);
        refusedIn(PromisesTest::heldUp, "introduce(1)", x -> x.introduce(1), NONE);
    }

    /** With an oak at 4: 4, 11, 25, 28, 31, HOME in 32. A lime for 2: 3, 7, 21, 24, 27, in 28. For 4: 4, 11, .. 20, in 21. */
    @Says("The TREE that, being a LIME now (AGE, what it KNOWS stay; one that is none), lets a message be HOME soonest "
        + "(likewise); of several the least. BEYOND. NONE.")
    static void promise19Lime() {
        asked(PromisesTest::heldUp, "lime(0)", x -> x.lime(0), 2);
        AvenueNods y = heldUp();
        y.turn(4, OAK);
        y.turn(3, STUMP);
        due("home(0)", y.home(0), 32);
        due("the oak for the elm", y.lime(0), 4);
        AvenueNods z = cut();
        z.plant(8, SAPLING);
        z.tell(8, 0);
        due("a sapling LEANS 6 in YEAR 6, when it is 7", z.home(0), 7);
        due("a lime that KNOWS it still", z.lime(0), 8);
        AvenueNods w = heldUp();
        w.turn(2, GRAFT);
        due("a lime for a graft is not sooner", w.lime(0), NONE);
        refused("lime(8)", x -> x.lime(8), BEYOND);
        refusedIn(PromisesTest::heldUp, "lime(1)", x -> x.lime(1), NONE);
    }

    /** TREE 2 as a lime: HOME in 16; as an elm 21; as a sapling of 40 16; as an oak 28; as a graft 14. */
    @Says("The KIND as one of which a TREE lets a message be HOME soonest (within 200 YEARS); of several the least. BEYOND. "
        + "NONE.")
    static void promise20Kind() {
        asked(PromisesTest::heldUp, "kind(2, 0)", x -> x.kind(2, 0), GRAFT);
        asked(PromisesTest::heldUp, "kind(3, 0), on the other side", x -> x.kind(3, 0), LIME);
        asked(PromisesTest::heldUp, "kind(10, 0), which needn't tell", x -> x.kind(10, 0), LIME);
        int[] home = {16, 21, 16, NONE, 28, 14};
        for (int kind = 0; kind < 6; kind++) {
            AvenueNods y = heldUp();
            y.turn(2, kind);
            due("as kind " + kind, y.home(0), home[kind]);
        }
        refused("kind(12, 0)", x -> x.kind(12, 0), BEYOND);
        refused("kind(0, 8)", x -> x.kind(0, 8), BEYOND);
        refusedIn(PromisesTest::heldUp, "kind(2, 1)", x -> x.kind(2, 1), NONE);
    }

    /** An elm at 11 HEARS no gale in YEAR 0; but from 9, which does then, it is told in 4, when 5 YEARS go. */
    @Says("In how many YEARS (0 to n) a GALE (one alone) had best come, so that most is KNOWN (counted by TREES) ON n YEARS "
        + "(0 to 60) in all; of several the fewest. BEYOND.")
    static void promise21Delay() {
        State elmAtTheTop = () -> {
            AvenueNods x = cut();
            x.turn(11, ELM);
            x.tell(0, 0);
            return x;
        };
        int[] delay = {0, 1, 1, 1, 1, 0, 0};
        for (int i = 0; i < delay.length; i++) {
            int n = i;
            asked(elmAtTheTop, "delay(" + n + ")", x -> x.delay(n), delay[n]);
        }
        asked(PromisesTest::told, "delay(60)", x -> x.delay(60), 0);
        refused("delay(61)", x -> x.delay(61), BEYOND);
        refused("delay(-1)", x -> x.delay(-1), BEYOND);
    }

    @Says("The SIDE at the gate on which a message (none KNOWS yet) had best be told now, to be HOME soonest (within 200 "
        + "YEARS); of both 0. BEYOND. STATE: somebody KNOWS it. NONE.")
    static void promise22Side() {
        asked(AvenueNods::new, "side(0)", x -> x.side(0), 0);
        asked(PromisesTest::heldUp, "side(1), an elm on side 0", x -> x.side(1), 1);
        AvenueNods y = heldUp();
        y.turn(5, OAK);
        due("an oak on side 1", y.side(1), 0);
        refused("side(8)", x -> x.side(8), BEYOND);
        refusedIn(PromisesTest::heldUp, "side(0)", x -> x.side(0), STATE);
        refusedIn(() -> {
            AvenueNods x = new AvenueNods();
            x.turn(8, STUMP);
            x.turn(9, STUMP);
            return x;
        }, "side(0) with two stumps", x -> x.side(0), NONE);
    }

    @Says("The TREE without which (were it a STUMP now, and KNEW nothing) a message is HOME latest (within 200 YEARS; not "
        + "at all: later than all); of several the least. BEYOND.")
    static void promise23Needed() {
        asked(PromisesTest::heldUp, "needed(0)", x -> x.needed(0), 0);
        AvenueNods y = heldUp();
        y.tell(4, 0);
        due("0 and 2 are not needed then; 4, 6, 8 and 10 are, each", y.needed(0), 4);
        y.tell(10, 0);
        due("without 10 it is not HOME at all", y.needed(0), 10);
        y.tell(11, 0);
        due("HOME without any", y.needed(0), 0);
        AvenueNods z = told();
        z.tell(1, 0);
        z.turn(3, ELM);
        due("2: the elm in 4, 5 in 11, .. 11 in 20, HOME in 21", z.needed(0), 2);
        refused("needed(8)", x -> x.needed(8), BEYOND);
    }

    // ---- the text

    @Says("THE TAPE gets the n lowest bytes of a number behind it, the highest of these first (n 1 to 4): how many it has. "
        + "BEYOND: n. FULL.")
    static void promise24Feed() {
        AvenueNods x = new AvenueNods();
        due("feed 'cut' and one more byte", x.feed(0x55637574, 3), 3);
        due("feed ' 0;m'", x.feed(0x20303b6d, 4), 7);
        due("feed 'ee'", x.feed(0xffff6565, 2), 9);
        due("feed 't'", x.feed(0x74, 1), 10);
        due("feed '0'", x.feed(-0xd0, 1), 11);
        due("count(1)", x.count(1), 11);
        due("avenue() of 'cut 0;meet0'", x.avenue(), 2);
        refused("feed(0, 0)", y -> y.feed(0, 0), BEYOND);
        refused("feed(0, 5)", y -> y.feed(0, 5), BEYOND);
        refusedIn(Edges::most, "feed(0, 1)", y -> y.feed(0, 1), FULL);
    }

    @Says("THE TAPE is empty: how many it had.")
    static void promise25Wipe() {
        AvenueNods x = new AvenueNods();
        due("wipe()", x.wipe(), 0);
        Checks.feedAll(x, "cut 0;");
        due("wipe()", x.wipe(), 6);
        due("count(1)", x.count(1), 0);
        Checks.feedAll(x, "cut 1");
        due("avenue()", x.avenue(), 1);
        due("now(1)", x.now(1), 61);
    }

    @Says("THE TAPE is THE TEXT of an AVENUE, whose ITEMS come to what there is, and empty then: how many ITEMS. With a "
        + "FAULT: -1 less its place (nothing changes but that THE TAPE is empty; no finding).")
    static void promise26Avenue() {
        AvenueNods x = new AvenueNods();
        x.turn(3, ELM);
        Checks.feedAll(x, "oak at 2 1 age 7; cut 3 ;word 5 1");
        due("avenue()", x.avenue(), 3);
        due("of(3, 0)", x.of(3, 0), ELM);
        due("of(5, 0)", x.of(5, 0), OAK);
        due("of(5, 1)", x.of(5, 1), 7);
        due("now(1)", x.now(1), 55);
        due("since(1, 5)", x.since(1, 5), 0);
        due("count(1)", x.count(1), 0);
        Checks.feedAll(x, "meet 3;stump at 2 1;word 6 0 ages");
        due("avenue()", x.avenue(), -1 - 29);
        due("of(5, 0)", x.of(5, 0), OAK);
        due("now(1)", x.now(1), 55);
        due("now(3)", x.now(3), 32);
        due("count(1)", x.count(1), 0);
        due("status(-1)", x.status(-1), 0);
        due("avenue() of nothing", x.avenue(), -1);
    }

    // ---- sheets

    @Says("A sheet has n numbers, all 0, of 8, 16 or 64 bits; bits 0: it is MISSING: n (0 if it is MISSING). BEYOND: no "
        + "such sheet, other bits. SIZE: n is below 0 (also with bits 0). BEYOND: n is above 40 (also with bits 0).")
    static void promise27Sheet() {
        AvenueNods x = new AvenueNods();
        due("sheet(2, 16, 5)", x.sheet(2, 16, 5), 5);
        due("write(2, 4, 9)", x.write(2, 4, 9), 0);
        due("sheet(2, 64, 5)", x.sheet(2, 64, 5), 5);
        due("write(2, 4, 9)", x.write(2, 4, 9), 0);
        due("sheet(2, 0, 40)", x.sheet(2, 0, 40), 0);
        due("write(2, 4, 9)", x.write(2, 4, 9), MISSING);
        refused("sheet(4, 8, 1)", y -> y.sheet(4, 8, 1), BEYOND);
        refused("sheet(0, 32, 1)", y -> y.sheet(0, 32, 1), BEYOND);
        refused("sheet(0, 8, -1)", y -> y.sheet(0, 8, -1), SIZE);
        refused("sheet(0, 0, -1)", y -> y.sheet(0, 0, -1), SIZE);
        refused("sheet(0, 8, 41)", y -> y.sheet(0, 8, 41), BEYOND);
        refused("sheet(0, 0, 41)", y -> y.sheet(0, 0, 41), BEYOND);
    }

    @Says("Number i of a sheet becomes v (its lowest bits): what it was. BEYOND: no such sheet. MISSING. BEYOND: no such "
        + "number.")
    static void promise28Write() {
        AvenueNods x = new AvenueNods();
        x.sheet(0, 8, 2);
        x.sheet(1, 16, 2);
        x.sheet(2, 64, 2);
        long v = 0x123456789abcdeL;
        for (int s = 0; s < 3; s++) {
            due("write(" + s + ", 1, v)", x.write(s, 1, v), 0);
            due("write(" + s + ", 0, 5)", x.write(s, 0, 5), 0);
            due("write(" + s + ", 0, 6)", x.write(s, 0, 6), 5);
        }
        due("8 bits", x.write(0, 1, 0), 0xde - 0x100);
        due("16 bits", x.write(1, 1, 0), 0xbcde - 0x10000);
        due("64 bits", x.write(2, 1, 0), v);
        refused("write(4, 0, 1)", y -> y.write(4, 0, 1), BEYOND);
        refusedIn(Edges::some, "write(3, 0, 1)", y -> y.write(3, 0, 1), MISSING);
        refusedIn(Edges::some, "write(0, 3, 1)", y -> y.write(0, 3, 1), BEYOND);
    }

    @Says("n numbers of a sheet from one on come to another one from one on (as they all were): n. BEYOND: no such sheet "
        + "(either). MISSING: one is. KIND: they are not of as many bits. BEYOND: one has not so many, or from, to or n is "
        + "below 0.")
    static void promise29Copy() {
        AvenueNods x = new AvenueNods();
        x.sheet(0, 16, 6);
        x.sheet(1, 16, 4);
        for (int i = 0; i < 6; i++) {
            x.write(0, i, 11 * i);
        }
        due("copy(0, 2, 1, 1, 3)", x.copy(0, 2, 1, 1, 3), 3);
        due("copy(0, 0, 0, 2, 4)", x.copy(0, 0, 0, 2, 4), 4);
        int[] one = {0, 22, 33, 44};
        for (int i = 0; i < 4; i++) {
            due("number " + i + " of sheet 1", x.write(1, i, 0), one[i]);
        }
        int[] nought = {0, 11, 0, 11, 22, 33};
        for (int i = 0; i < 6; i++) {
            due("number " + i + " of sheet 0", x.write(0, i, 0), nought[i]);
        }
        refused("copy(4, 0, 0, 0, 0)", y -> y.copy(4, 0, 0, 0, 0), BEYOND);
        refusedIn(Edges::some, "copy(0, 0, 3, 0, 1)", y -> y.copy(0, 0, 3, 0, 1), MISSING);
        refusedIn(Edges::some, "copy(0, 0, 1, 0, 1)", y -> y.copy(0, 0, 1, 0, 1), KIND);
        refusedIn(Edges::some, "copy(0, 1, 0, 0, 3)", y -> y.copy(0, 1, 0, 0, 3), BEYOND);
        refusedIn(Edges::some, "copy(0, 0, 0, -1, 1)", y -> y.copy(0, 0, 0, -1, 1), BEYOND);
    }

    @Says("Numbers of a sheet become AGES of TREES 0, 1, .. (those that aren't 0 to 999, or stand for none, are left out): "
        + "how many came. BEYOND: no such sheet. MISSING.")
    static void promise30Lays() {
        AvenueNods x = new AvenueNods();
        x.sheet(0, 16, 14);
        int[] numbers = {0, 999, 1000, -1, 7, 8, 9, 10, 11, 12, 13, 14, 15, 16};
        int[] ages = {0, 999, 40, 40, 7, 8, 9, 10, 11, 12, 13, 14};
        for (int i = 0; i < numbers.length; i++) {
            x.write(0, i, numbers[i]);
        }
        due("lays(0)", x.lays(0), 10);
        for (int tree = 0; tree < 12; tree++) {
            due("of(" + tree + ", 1)", x.of(tree, 1), ages[tree]);
        }
        refused("lays(4)", y -> y.lays(4), BEYOND);
        refusedIn(Edges::some, "lays(3)", y -> y.lays(3), MISSING);
    }

    @Says("A book: messages that a TREE KNOWS (as a set) ON 0, 1, 2, .. YEARS comes to a sheet, as many as it has numbers: "
        + "how many. BEYOND: no such sheet. MISSING. BEYOND: tree.")
    static void promise31Book() {
        AvenueNods x = told();
        x.tell(3, 2);
        x.sheet(0, 16, 7);
        due("book(0, 2)", x.book(0, 2), 7);
        int[] book = {0, 0, 4, 4, 5, 5, 5};
        for (int i = 0; i < 7; i++) {
            due("number " + i, x.write(0, i, 0), book[i]);
        }
        due("now(0)", x.now(0), 0);
        due("now(4)", x.now(4), 2);
        refused("book(4, 0)", y -> y.book(4, 0), BEYOND);
        refusedIn(Edges::some, "book(3, 0)", y -> y.book(3, 0), MISSING);
        refusedIn(Edges::some, "book(0, 12)", y -> y.book(0, 12), BEYOND);
    }

    /** TREE 1 is told in YEAR 1: by a lime, a sapling or a graft of 41, each of which NODS 1; as all but a stump. */
    @Says("THE READER: numbers of a sheet are what a TREE KNOWS (as a set) ON 0, 1, 2, .. YEARS: how many pairs of a KIND "
        + "of it and a KIND of another one make it just so. BEYOND: no such sheet. MISSING. BEYOND: tree, other (also one "
        + "and the same).")
    static void promise32Read() {
        State booked = () -> {
            AvenueNods x = told();
            x.sheet(0, 8, 4);
            x.book(0, 1);
            return x;
        };
        asked(booked, "read(0, 1, 0)", x -> x.read(0, 1, 0), 3 * 5);
        asked(booked, "read(0, 1, 11), which has no part in it", x -> x.read(0, 1, 11), 5 * 6);
        asked(booked, "read(0, 2, 1), which is told in 3 at the soonest", x -> x.read(0, 2, 1), 0);
        AvenueNods y = booked.made();
        y.write(0, 2, 0);
        due("in YEAR 2: by an elm or an oak, as all but a stump", y.read(0, 1, 0), 2 * 5);
        y.write(0, 3, 0);
        due("not at all: as a stump by any, or by a stump as any", y.read(0, 1, 0), 6 + 6 - 1);
        refused("read(4, 0, 1)", x -> x.read(4, 0, 1), BEYOND);
        refusedIn(Edges::some, "read(3, 0, 1)", x -> x.read(3, 0, 1), MISSING);
        refusedIn(Edges::some, "read(0, 12, 0)", x -> x.read(0, 12, 0), BEYOND);
        refusedIn(Edges::some, "read(0, 0, 12)", x -> x.read(0, 0, 12), BEYOND);
        refusedIn(Edges::some, "read(0, 5, 5)", x -> x.read(0, 5, 5), BEYOND);
    }

    // ---- images

    @Says("All that section 1 tells (THE TAPE not) is kept: 1.")
    static void promise33Image() {
        AvenueNods x = told();
        x.plant(6, ELM);
        x.meet(1, 0);
        x.years(2);
        Checks.feedAll(x, "cut 5");
        due("image()", x.image(), 1);
        due("image() again", x.image(), 1);
        x.plant(6, OAK);
        x.forget(0);
        x.meet(1, 1);
        x.years(5);
        x.wipe();
        x.undo();
        due("of(6, 0)", x.of(6, 0), ELM);
        due("of(6, 1)", x.of(6, 1), 2);
        due("since(1, 0)", x.since(1, 0), 1);
        due("now(1)", x.now(1), 61);
        due("now(0)", x.now(0), 2);
        due("count(1)", x.count(1), 0);
    }

    @Says("It becomes what was kept latest (which stays): YEAR. NONE: nothing is kept.")
    static void promise34Undo() {
        AvenueNods x = inYear(10);
        x.image();
        x.years(10);
        x.image();
        x.years(10);
        due("undo()", x.undo(), 20);
        x.years(1);
        due("undo() again", x.undo(), 20);
        due("now(0)", x.now(0), 20);
        refusedIn(AvenueNods::new, "undo()", AvenueNods::undo, NONE);
    }

    @Says("Nothing is kept: 1 if something was, else 0.")
    static void promise35Tear() {
        AvenueNods x = new AvenueNods();
        due("tear()", x.tear(), 0);
        x.image();
        x.image();
        due("tear()", x.tear(), 1);
        due("undo()", x.undo(), NONE);
        due("tear()", x.tear(), 0);
    }

    @Says("0 TREES that are no LIMES (KIND not 0), 1 bytes of THE TAPE, 2 PAIRS that are INTRODUCED, 3 TREES that KNOW "
        + "anything. BEYOND: another what.")
    static void promise36Count() {
        AvenueNods x = told();
        x.tell(0, 1);
        x.tell(4, 1);
        x.turn(4, STUMP);
        x.plant(5, LIME);
        x.plant(6, GRAFT);
        x.meet(0, 0);
        x.feed(0, 3);
        int[] told = {2, 3, 5, 2};
        for (int what = 0; what < 4; what++) {
            due("count(" + what + ")", x.count(what), told[what]);
        }
        refused("count(4)", y -> y.count(4), BEYOND);
        refused("count(-1)", y -> y.count(-1), BEYOND);
    }

    @Says("How many acts answered a finding ever (undo() takes none back): which -1: all, 0 to 6: BEYOND to SIZE. BEYOND "
        + "(counted from then on): another one.")
    static void promise37Status() {
        AvenueNods x = new AvenueNods();
        x.image();
        x.of(12, 0);
        x.of(12, 0);
        x.as(0, OAK);
        x.since(0, 0);
        x.since(0, 1);
        x.since(0, 2);
        x.lays(0);
        x.sheet(0, 8, -1);
        x.undo();
        int[] told = {2, 0, 1, 3, 0, 1, 1};
        due("status(-1)", x.status(-1), 8);
        for (int which = 0; which < 7; which++) {
            due("status(" + which + ")", x.status(which), told[which]);
        }
        due("status(7)", x.status(7), BEYOND);
        due("status(0)", x.status(0), 3);
        due("status(-1)", x.status(-1), 9);
        refused("status(-2)", y -> y.status(-2), BEYOND);
    }
}
