/** The edges of promises 1 to 8: a new object, of, since, plant, turn, age, as, meet. */
public final class EdgesOfTreesTest extends Edges {
    public static void main(String[] args) throws Exception {
        runAll(EdgesOfTreesTest.class);
    }

    // ---- promise 1

    @Says("Limes alone, nothing known; THE TAPE is empty, no image is kept.")
    static void promise1NothingIsThere() {
        AvenueNods x = new AvenueNods();
        for (int what = 2; what < 5; what++) {
            due("now(" + what + ")", x.now(what), 0);
        }
        due("no limes", x.count(0), 0);
        due("bytes", x.count(1), 0);
        due("trees that know", x.count(3), 0);
        due("wipe()", x.wipe(), 0);
        due("tear()", x.tear(), 0);
        due("undo()", x.undo(), NONE);
        for (int tree = 0; tree < 12; tree++) {
            for (int message = 0; message < 8; message++) {
                due("since(" + tree + ", " + message + ")", x.since(tree, message), NONE);
            }
        }
    }

    @Says("0 LIME (at first)")
    static void promise1TreesAreLimes() {
        AvenueNods x = new AvenueNods();
        for (int tree = 0; tree < 12; tree++) {
            due("of(" + tree + ", 0)", x.of(tree, 0), LIME);
        }
    }

    @Says("each with an AGE (0 to 999; 40 at first)")
    static void promise1AgesAre40() {
        AvenueNods x = new AvenueNods();
        for (int tree = 0; tree < 12; tree++) {
            due("of(" + tree + ", 1)", x.of(tree, 1), 40);
        }
        due("now(5)", x.now(5), 480);
    }

    @Says("are INTRODUCED, or not (all are at first)")
    static void promise1AllPairsAreIntroduced() {
        due("now(1)", new AvenueNods().now(1), 63);
        due("count(2)", new AvenueNods().count(2), 6);
    }

    @Says("YEAR: 0 at first")
    static void promise1YearIs0() {
        due("now(0)", new AvenueNods().now(0), 0);
    }

    @Says("or MISSING (at first)")
    static void promise1SheetsAreMissing() {
        AvenueNods x = new AvenueNods();
        for (int s = 0; s < 4; s++) {
            due("lays(" + s + ")", x.lays(s), MISSING);
        }
    }

    @Says("Limes alone, nothing known")
    static void promise1NothingIsCounted() {
        AvenueNods x = new AvenueNods();
        for (int which = -1; which < 7; which++) {
            due("status(" + which + ")", x.status(which), 0);
        }
    }

    @Says("Limes alone, nothing known; THE TAPE is empty, no image is kept.")
    static void promise1OneObjectOwesAnotherNothing() {
        AvenueNods before = new AvenueNods();
        most();
        some();
        due("a new object behind others", whole(new AvenueNods()).equals(whole(before)) ? 1 : 0, 1);
    }

    // ---- promise 2

    @Says("TREES 0 to 11")
    static void promise2TreesAre0To11() {
        asked(Edges::some, "of(0, 1)", x -> x.of(0, 1), 46);
        asked(Edges::some, "of(11, 1)", x -> x.of(11, 1), 46);
        for (int tree : outside(0, 11)) {
            for (int what : new int[] {0, 5}) {
                refused("of(" + tree + ", " + what + ")", x -> x.of(tree, what), BEYOND);
            }
        }
    }

    @Says("what 0 KIND, 1 AGE, 2 LEANS, 3 NODS, 4 1 if it HEARS from the one below it this YEAR, else 0, 5 messages")
    static void promise2WhatIs0To5() {
        asked(Edges::some, "of(9, 0)", x -> x.of(9, 0), GRAFT);
        asked(Edges::some, "of(11, 5)", x -> x.of(11, 5), 128);
        for (int what : outside(0, 5)) {
            refused("of(11, " + what + ")", x -> x.of(11, what), BEYOND);
            refused("of(12, " + what + "), counted once", x -> x.of(12, what), BEYOND);
        }
    }

    @Says("as a set. BEYOND.")
    static void promise2KnownAreNoneAndAll() {
        due("none", new AvenueNods().of(0, 5), 0);
        due("all", most().of(11, 5), 255);
        for (int message = 0; message < 8; message++) {
            AvenueNods x = new AvenueNods();
            x.tell(11, message);
            due("one", x.of(11, 5), 1 << message);
            due("one, of another", x.of(10, 5), 0);
        }
    }

    private static void atAges(int kind, int what, int[] ages, int... due) {
        AvenueNods x = inYear(1);
        x.turn(6, kind);
        for (int i = 0; i < ages.length; i++) {
            x.age(6, ages[i]);
            due("kind " + kind + " at " + ages[i] + ", of(6, " + what + ")", x.of(6, what), due[i]);
        }
    }

    @Says("LIME: 3. ELM: as LIME, and 4.")
    static void promise2LeansOfLimeAndElmAreSoAtAnyAge() {
        atAges(LIME, 2, new int[] {0, 9, 10, 999}, 3, 3, 3, 3);
        atAges(ELM, 2, new int[] {0, 9, 10, 999}, 7, 7, 7, 7);
    }

    @Says("SAPLING: as LIME, and 1 for each year of AGE below 10.")
    static void promise2LeansOfSaplingEndAt10() {
        atAges(SAPLING, 2, new int[] {0, 1, 8, 9, 10, 11, 999}, 13, 12, 5, 4, 3, 3, 3);
    }

    @Says("STUMP: 999. OAK: twice as ELM.")
    static void promise2LeansOfStumpAndOakAreSoAtAnyAge() {
        atAges(STUMP, 2, new int[] {0, 9, 10, 999}, 999, 999, 999, 999);
        atAges(OAK, 2, new int[] {0, 9, 10, 999}, 14, 14, 14, 14);
    }

    @Says("GRAFT: as SAPLING, less 2.")
    static void promise2LeansOfGraftEndAt10() {
        atAges(GRAFT, 2, new int[] {0, 1, 8, 9, 10, 11, 999}, 11, 10, 3, 2, 1, 1, 1);
    }

    @Says("LIME: 1. ELM: as LIME, and 1.")
    static void promise2NodsOfLimeAndElmAreSoAtAnyAge() {
        atAges(LIME, 3, new int[] {0, 19, 20, 999}, 1, 1, 1, 1);
        atAges(ELM, 3, new int[] {0, 19, 20, 999}, 2, 2, 2, 2);
    }

    @Says("SAPLING: as LIME, twice that below an AGE of 20.")
    static void promise2NodsOfSaplingEndAt20() {
        atAges(SAPLING, 3, new int[] {0, 18, 19, 20, 21, 999}, 2, 2, 2, 1, 1, 1);
    }

    @Says("STUMP: 999. OAK: as ELM. GRAFT: as SAPLING.")
    static void promise2NodsOfStumpOakAndGraft() {
        atAges(STUMP, 3, new int[] {0, 19, 20, 999}, 999, 999, 999, 999);
        atAges(OAK, 3, new int[] {0, 19, 20, 999}, 2, 2, 2, 2);
        atAges(GRAFT, 3, new int[] {0, 18, 19, 20, 21, 999}, 2, 2, 2, 1, 1, 1);
    }

    @Says("SAPLING: from an AGE of 5 on.")
    static void promise2HearsOfSaplingBeginAt5() {
        atAges(SAPLING, 4, new int[] {0, 4, 5, 6, 999}, 0, 0, 1, 1, 1);
    }

    @Says("GRAFT: as SAPLING, or from the one ACROSS at any AGE.")
    static void promise2HearsOfGraftFromBelowBeginAt5() {
        atAges(GRAFT, 4, new int[] {0, 4, 5, 6, 999}, 0, 0, 1, 1, 1);
    }

    @Says("LIME: yes.")
    static void promise2LimeHearsAtAnyAge() {
        atAges(LIME, 4, new int[] {0, 4, 5, 999}, 1, 1, 1, 1);
        due("in YEAR 0", new AvenueNods().of(0, 4), 1);
        due("in YEAR 9999", inYear(9999).of(11, 4), 1);
    }

    @Says("STUMP: no.")
    static void promise2StumpHearsAtNoAge() {
        atAges(STUMP, 4, new int[] {0, 4, 5, 999}, 0, 0, 0, 0);
    }

    @Says("ELM: but in YEARS whose rest by 3 is 0 not.")
    static void promise2HearsOfElmGoByTheYear() {
        hearsIn(ELM);
    }

    @Says("OAK: as ELM.")
    static void promise2HearsOfOakGoByTheYear() {
        hearsIn(OAK);
    }

    private static void hearsIn(int kind) {
        int[] years = {0, 1, 2, 3, 4, 5, 6, 9996, 9997, 9998, 9999};
        int[] hears = {0, 1, 1, 0, 1, 1, 0, 0, 1, 1, 0};
        AvenueNods x = new AvenueNods();
        x.plant(0, kind);
        x.turn(11, kind);
        for (int i = 0; i < years.length; i++) {
            goTo(x, years[i]);
            due("TREE 0 in " + years[i], x.of(0, 4), hears[i]);
            due("TREE 11 in " + years[i], x.of(11, 4), hears[i]);
        }
    }

    // ---- promise 3

    @Says("Since when a TREE KNOWS a message. BEYOND.")
    static void promise3TreesAre0To11() {
        asked(Edges::some, "since(0, 0)", x -> x.since(0, 0), 4);
        asked(Edges::some, "since(11, 7)", x -> x.since(11, 7), 4);
        for (int tree : outside(0, 11)) {
            refused("since(" + tree + ", 0)", x -> x.since(tree, 0), BEYOND);
        }
    }

    @Says("MESSAGES 0 to 7")
    static void promise3MessagesAre0To7() {
        for (int message : outside(0, 7)) {
            refused("since(0, " + message + ")", x -> x.since(0, message), BEYOND);
            refused("since(11, " + message + ")", x -> x.since(11, message), BEYOND);
        }
    }

    @Says("NONE: it doesn't.")
    static void promise3NoneIfItDoesNotKnow() {
        refusedIn(AvenueNods::new, "since(0, 0)", x -> x.since(0, 0), NONE);
        refusedIn(Edges::some, "since(0, 7)", x -> x.since(0, 7), NONE);
        refusedIn(Edges::some, "since(11, 0)", x -> x.since(11, 0), NONE);
        AvenueNods x = most();
        x.forget(3);
        due("since what is forgotten", x.since(4, 3), NONE);
        due("since what is not", x.since(4, 2), 0);
        x.plant(4, LIME);
        due("since of another one set", x.since(4, 2), NONE);
    }

    @Says("each TREE KNOWS one since a YEAR, or not (at first)")
    static void promise3SinceTheFirstYearAndTheLast() {
        AvenueNods x = new AvenueNods();
        x.tell(0, 0);
        due("since YEAR 0", x.since(0, 0), 0);
        goTo(x, 9999);
        due("since YEAR 0 still", x.since(0, 0), 0);
        x.tell(0, 7);
        due("since YEAR 9999", x.since(0, 7), 9999);
    }

    // ---- promise 4

    @Says("A TREE is felled and another one of a KIND is set, AGE 0, that KNOWS nothing: the KIND that it was.")
    static void promise4AllOfTheOldTreeIsGone() {
        changes(Edges::some, "plant(11, 5)", x -> x.plant(11, GRAFT), LIME, "of(11, 0)", "of(11, 1)", "since(11, 7)");
        changes(Edges::some, "plant(0, 1)", x -> x.plant(0, ELM), LIME, "of(0, 0)", "of(0, 1)", "since(0, 0)");
        changes(Edges::some, "plant(9, 0)", x -> x.plant(9, LIME), GRAFT, "of(9, 0)", "of(9, 1)");
        AvenueNods x = most();
        due("plant one that KNOWS all", x.plant(6, STUMP), GRAFT);
        due("it KNOWS nothing", x.of(6, 5), 0);
        due("its AGE", x.of(6, 1), 0);
        due("all that is known", x.now(4), 88);
    }

    @Says("the KIND that it was")
    static void promise4OfTheSameKindItIsSetAnewToo() {
        changes(Edges::some, "plant(0, 0)", x -> x.plant(0, LIME), LIME, "of(0, 1)", "since(0, 0)");
        changes(AvenueNods::new, "plant(5, 0)", x -> x.plant(5, LIME), LIME, "of(5, 1)");
    }

    @Says("the KIND that it was. BEYOND.")
    static void promise4TreesAre0To11() {
        for (int tree : outside(0, 11)) {
            refused("plant(" + tree + ", 0)", x -> x.plant(tree, LIME), BEYOND);
        }
    }

    @Says("Each TREE is of a KIND: 0 LIME (at first), 1 ELM under LIME, 2 SAPLING under LIME, 3 STUMP under LIME")
    static void promise4KindsAre0To5() {
        AvenueNods x = new AvenueNods();
        for (int kind = 0; kind < 6; kind++) {
            due("plant(3, " + kind + ")", x.plant(3, kind), Math.max(0, kind - 1));
        }
        due("the last", x.of(3, 0), GRAFT);
        for (int kind : outside(0, 5)) {
            refused("plant(0, " + kind + ")", y -> y.plant(0, kind), BEYOND);
            refused("plant(12, " + kind + "), counted once", y -> y.plant(12, kind), BEYOND);
        }
    }

    // ---- promise 5

    @Says("A TREE becomes one of another KIND (AGE, what it KNOWS stay): what it was.")
    static void promise5AgeAndWhatItKnowsStay() {
        changes(Edges::some, "turn(0, 3)", x -> x.turn(0, STUMP), LIME, "of(0, 0)");
        changes(Edges::some, "turn(11, 5)", x -> x.turn(11, GRAFT), LIME, "of(11, 0)");
        changes(Edges::most, "turn(6, 2)", x -> x.turn(6, SAPLING), GRAFT, "of(6, 0)");
        changes(Edges::some, "turn(9, 5), what it is", x -> x.turn(9, GRAFT), GRAFT);
    }

    @Says("what it was. BEYOND.")
    static void promise5TreesAre0To11() {
        for (int tree : outside(0, 11)) {
            refused("turn(" + tree + ", 0)", x -> x.turn(tree, LIME), BEYOND);
        }
    }

    @Says("4 OAK under ELM, 5 GRAFT under SAPLING")
    static void promise5KindsAre0To5() {
        AvenueNods x = new AvenueNods();
        for (int kind = 5; kind >= 0; kind--) {
            due("turn(7, " + kind + ")", x.turn(7, kind), kind == 5 ? 0 : kind + 1);
        }
        for (int kind : outside(0, 5)) {
            refused("turn(11, " + kind + ")", y -> y.turn(11, kind), BEYOND);
            refused("turn(-1, " + kind + "), counted once", y -> y.turn(-1, kind), BEYOND);
        }
    }

    // ---- promise 6

    @Says("each with an AGE (0 to 999; 40 at first)")
    static void promise6AgesAre0To999() {
        changes(Edges::some, "age(0, 0)", x -> x.age(0, 0), 46, "of(0, 1)");
        changes(Edges::some, "age(11, 999)", x -> x.age(11, 999), 46, "of(11, 1)");
        changes(Edges::most, "age(11, 0)", x -> x.age(11, 0), 999, "of(11, 1)");
        changes(Edges::most, "age(11, 999), what it is", x -> x.age(11, 999), 999);
        AvenueNods x = new AvenueNods();
        x.age(4, 0);
        due("age of 0", x.age(4, 999), 0);
        due("age of 999", x.age(4, 1), 999);
        for (int v : outside(0, 999)) {
            refused("age(0, " + v + ")", y -> y.age(0, v), BEYOND);
            refused("age(12, " + v + "), counted once", y -> y.age(12, v), BEYOND);
        }
    }

    @Says("AGE of a TREE becomes v: what it was. BEYOND.")
    static void promise6TreesAre0To11() {
        for (int tree : outside(0, 11)) {
            refused("age(" + tree + ", 0)", x -> x.age(tree, 0), BEYOND);
        }
    }

    // ---- promise 7

    @Says("BEYOND: no such tree, kind.")
    static void promise7TreesAre0To11() {
        asked(Edges::some, "as(0, 0)", x -> x.as(0, LIME), 46);
        asked(Edges::some, "as(11, 0)", x -> x.as(11, LIME), 46);
        for (int tree : outside(0, 11)) {
            refused("as(" + tree + ", 0)", x -> x.as(tree, LIME), BEYOND);
            refused("as(" + tree + ", 1)", x -> x.as(tree, ELM), BEYOND);
        }
    }

    @Says("no such tree, kind. KIND: it isn't of that kind")
    static void promise7KindsAre0To5AndThatIsAskedFirst() {
        asked(Edges::some, "as(9, 5)", x -> x.as(9, GRAFT), 2);
        for (int kind : outside(0, 5)) {
            refused("as(0, " + kind + ")", x -> x.as(0, kind), BEYOND);
            refused("as(12, " + kind + "), counted once", x -> x.as(12, kind), BEYOND);
        }
    }

    @Says("KIND: it isn't of that kind, nor of one under it.")
    static void promise7KindIfItIsNotOfOneUnderIt() {
        int[] upper = {LIME, LIME, LIME, LIME, ELM, SAPLING};
        for (int is = 0; is < 6; is++) {
            for (int kind = 0; kind < 6; kind++) {
                int of = is;
                int as = kind;
                State state = () -> {
                    AvenueNods x = some();
                    x.turn(4, of);
                    return x;
                };
                String call = "as(4, " + as + ") of kind " + of;
                if (as == of || as == upper[of] || as == LIME) {
                    asked(state, call, x -> x.as(4, as), 46);
                } else {
                    refusedIn(state, call, x -> x.as(4, as), KIND);
                }
            }
        }
    }

    @Says("A TREE as one of a kind: AGE.")
    static void promise7AgesOf0And999() {
        AvenueNods x = most();
        due("as(11, 2)", x.as(11, SAPLING), 999);
        x.plant(11, OAK);
        due("as(11, 1)", x.as(11, ELM), 0);
    }

    // ---- promise 8

    @Says("at PLACES 0 (the gate) to 5 (the terrace)")
    static void promise8PlacesAre0To5() {
        changes(Edges::some, "meet(0, 1)", x -> x.meet(0, 1), 0, "now(1)");
        changes(Edges::some, "meet(5, 0)", x -> x.meet(5, 0), 1, "now(1)");
        for (int place : outside(0, 5)) {
            refused("meet(" + place + ", 0)", x -> x.meet(place, 0), BEYOND);
            refused("meet(" + place + ", 1)", x -> x.meet(place, 1), BEYOND);
        }
    }

    @Says("A PAIR is INTRODUCED (v 1) or not (0): what it was. BEYOND.")
    static void promise8VIs0Or1() {
        for (int v : outside(0, 1)) {
            refused("meet(0, " + v + ")", x -> x.meet(0, v), BEYOND);
            refused("meet(5, " + v + ")", x -> x.meet(5, v), BEYOND);
            refused("meet(6, " + v + "), counted once", x -> x.meet(6, v), BEYOND);
        }
    }

    @Says("what it was")
    static void promise8WhatIsSoAlreadyStays() {
        changes(Edges::some, "meet(2, 1), what it is", x -> x.meet(2, 1), 1);
        changes(Edges::some, "meet(0, 0), what it is", x -> x.meet(0, 0), 0);
    }

    @Says("PAIRS (the two at a PLACE) are INTRODUCED, or not")
    static void promise8FromAllToNoneAndBack() {
        AvenueNods x = new AvenueNods();
        for (int place = 0; place < 6; place++) {
            due("meet(" + place + ", 0)", x.meet(place, 0), 1);
            due("now(1)", x.now(1), 63 & -1 << place + 1);
        }
        for (int place = 0; place < 6; place++) {
            due("meet(" + place + ", 1)", x.meet(place, 1), 0);
            due("now(1)", x.now(1), (2 << place) - 1);
        }
    }
}
