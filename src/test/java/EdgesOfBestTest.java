/** The edges of promises 18 to 23: introduce, lime, kind, delay, side, needed. */
public final class EdgesOfBestTest extends Edges {
    public static void main(String[] args) throws Exception {
        runAll(EdgesOfBestTest.class);
    }

    /** Message 0 is told to TREE 0 of an avenue without nods, in which these are stumps. */
    private static AvenueNods toldAtGate(int... stumps) {
        AvenueNods x = cut();
        for (int tree : stumps) {
            x.turn(tree, STUMP);
        }
        x.tell(0, 0);
        return x;
    }

    // ---- promise 18

    @Says("MESSAGES 0 to 7")
    static void promise18MessagesAre0To7() {
        for (int message : outside(0, 7)) {
            refused("introduce(" + message + ")", x -> x.introduce(message), BEYOND);
        }
    }

    @Says("were the PAIR INTRODUCED now (one that isn't)")
    static void promise18NoneIfAllAre() {
        State state = () -> {
            AvenueNods x = new AvenueNods();
            x.turn(2, STUMP);
            x.tell(0, 7);
            return x;
        };
        refusedIn(state, "introduce(7)", x -> x.introduce(7), NONE);
    }

    @Says("sooner than as it is")
    static void promise18NoneIfItIsNotSooner() {
        refusedIn(() -> toldAtGate(), "introduce(0), as soon", x -> x.introduce(0), NONE);
        refusedIn(Edges::some, "introduce(7), HOME now", x -> x.introduce(7), NONE);
        refusedIn(Edges::some, "introduce(1), known by none", x -> x.introduce(1), NONE);
        refusedIn(() -> toldAtGate(1, 3, 4), "introduce(0), nobody to nod to", x -> x.introduce(0), NONE);
        State sooner = () -> {
            AvenueNods x = toldAtGate();
            x.turn(4, SAPLING);
            x.age(4, 14);
            x.turn(0, ELM);
            return x;
        };
        asked(sooner, "home(0)", x -> x.home(0), 20);
        asked(sooner, "introduce(0), the elm at the gate NODS 2, so in 18", x -> x.introduce(0), 0);
    }

    /** TREE 9, a stump, was told in YEAR 0: introduced to TREE 8 it NODS in 999, and TREE 10 KNOWS it ON 1003. */
    private static AvenueNods stumpNodsIn999(int year) {
        AvenueNods x = cut();
        x.turn(9, STUMP);
        x.turn(11, STUMP);
        x.tell(9, 0);
        goTo(x, year);
        return x;
    }

    @Says("a message is HOME soonest (within 200 YEARS)")
    static void promise18The200thYearCounts() {
        asked(() -> stumpNodsIn999(803), "introduce(0) in 803", x -> x.introduce(0), 4);
        refusedIn(() -> stumpNodsIn999(802), "introduce(0) in 802", x -> x.introduce(0), NONE);
    }

    @Says("of several the least")
    static void promise18OfSeveralTheLeast() {
        asked(() -> toldAtGate(4), "introduce(0), at 0 and 1 as soon", x -> x.introduce(0), 0);
        asked(() -> toldAtGate(4, 1), "introduce(0), at 1 alone", x -> x.introduce(0), 1);
        asked(() -> toldAtGate(10), "introduce(0), at 0 to 4 as soon", x -> x.introduce(0), 0);
        asked(() -> toldAtGate(10, 1, 3, 5, 7), "introduce(0), at 4 alone", x -> x.introduce(0), 4);
    }

    // ---- promise 19

    @Says("MESSAGES 0 to 7")
    static void promise19MessagesAre0To7() {
        for (int message : outside(0, 7)) {
            refused("lime(" + message + ")", x -> x.lime(message), BEYOND);
        }
    }

    @Says("being a LIME now (AGE, what it KNOWS stay; one that is none)")
    static void promise19NoneIfAllAreLimes() {
        refusedIn(() -> toldAtGate(), "lime(0)", x -> x.lime(0), NONE);
        refusedIn(AvenueNods::new, "lime(0) of nothing", x -> x.lime(0), NONE);
    }

    @Says("lets a message be HOME soonest (likewise)")
    static void promise19NoneIfItIsNotSooner() {
        refusedIn(() -> toldAtGate(3, 5), "lime(0), not on its way", x -> x.lime(0), NONE);
        refusedIn(() -> toldAtGate(2, 4), "lime(0), two on its way", x -> x.lime(0), NONE);
        refusedIn(Edges::most, "lime(0), HOME now", x -> x.lime(0), NONE);
        refusedIn(Edges::some, "lime(1), known by none", x -> x.lime(1), NONE);
    }

    /** TREE 8, a stump, was told in YEAR 0; were TREE 10 a lime, it would KNOW it ON 1000. */
    private static AvenueNods stumpLeansIn999(int year) {
        AvenueNods x = cut();
        x.turn(8, STUMP);
        x.turn(10, STUMP);
        x.tell(8, 0);
        goTo(x, year);
        return x;
    }

    @Says("(likewise)")
    static void promise19The200thYearCounts() {
        asked(() -> stumpLeansIn999(800), "lime(0) in 800", x -> x.lime(0), 10);
        refusedIn(() -> stumpLeansIn999(799), "lime(0) in 799", x -> x.lime(0), NONE);
    }

    @Says("of several the least")
    static void promise19OfSeveralTheLeast() {
        State both = () -> {
            AvenueNods x = cut();
            x.turn(10, STUMP);
            x.turn(11, STUMP);
            x.tell(8, 7);
            x.tell(9, 7);
            return x;
        };
        State one = () -> {
            AvenueNods x = cut();
            x.turn(10, STUMP);
            x.turn(11, STUMP);
            x.tell(9, 7);
            return x;
        };
        asked(both, "lime(7), 10 and 11 as soon", x -> x.lime(7), 10);
        asked(one, "lime(7), 11 alone", x -> x.lime(7), 11);
        asked(() -> toldAtGate(0), "lime(0), the gate's", x -> x.lime(0), 0);
    }

    // ---- promise 20

    @Says("of several the least. BEYOND. NONE.")
    static void promise20TreesAndMessages() {
        for (int tree : outside(0, 11)) {
            refused("kind(" + tree + ", 0)", x -> x.kind(tree, 0), BEYOND);
            refused("kind(" + tree + ", 8), counted once", x -> x.kind(tree, 8), BEYOND);
        }
        for (int message : outside(0, 7)) {
            refused("kind(0, " + message + ")", x -> x.kind(0, message), BEYOND);
            refused("kind(11, " + message + ")", x -> x.kind(11, message), BEYOND);
        }
    }

    @Says("HOME soonest (within 200 YEARS)")
    static void promise20The200thYearCounts() {
        asked(() -> stumpLeansIn999(800), "kind(10, 0) in 800", x -> x.kind(10, 0), LIME);
        refusedIn(() -> stumpLeansIn999(799), "kind(10, 0) in 799", x -> x.kind(10, 0), NONE);
    }

    @Says("of several the least")
    static void promise20OfSeveralTheLeast() {
        asked(Edges::some, "kind(11, 7), HOME as any", x -> x.kind(11, 7), LIME);
        asked(Edges::most, "kind(0, 7), HOME as any", x -> x.kind(0, 7), LIME);
        asked(() -> toldAtGate(), "kind(1, 0), as soon as any", x -> x.kind(1, 0), LIME);
        asked(() -> toldAtGate(), "kind(0, 0), a graft LEANS 1", x -> x.kind(0, 0), GRAFT);
        asked(() -> toldAtGate(), "kind(10, 0), it is to hear in YEAR 15", x -> x.kind(10, 0), LIME);
    }

    @Says("BEYOND. NONE.")
    static void promise20NoneAsAnyKind() {
        refusedIn(AvenueNods::new, "kind(0, 0) of nothing", x -> x.kind(0, 0), NONE);
        refusedIn(() -> toldAtGate(4), "kind(2, 0), another one is a stump", x -> x.kind(2, 0), NONE);
        refusedIn(Edges::some, "kind(9, 2), known by a stump", x -> x.kind(9, 2), NONE);
    }

    // ---- promise 21

    @Says("ON n YEARS (0 to 60) in all; of several the fewest. BEYOND.")
    static void promise21NIs0To60() {
        asked(AvenueNods::new, "delay(0)", x -> x.delay(0), 0);
        asked(AvenueNods::new, "delay(60)", x -> x.delay(60), 0);
        asked(Edges::most, "delay(0)", x -> x.delay(0), 0);
        asked(Edges::most, "delay(60)", x -> x.delay(60), 0);
        for (int n : outside(0, 60)) {
            refused("delay(" + n + ")", x -> x.delay(n), BEYOND);
        }
    }

    /** TREE 0 KNOWS a message, and only TREE 9, a sapling set now, may HEAR of it. */
    private static AvenueNods saplingAndStumps() {
        AvenueNods x = cut();
        for (int tree = 1; tree < 12; tree++) {
            x.turn(tree, STUMP);
        }
        x.plant(9, SAPLING);
        x.tell(0, 0);
        return x;
    }

    @Says("In how many YEARS (0 to n) a GALE (one alone) had best come")
    static void promise21TheLastYearIsN() {
        asked(() -> saplingAndStumps(), "delay(4), too young in all", x -> x.delay(4), 0);
        asked(() -> saplingAndStumps(), "delay(5), when 5 are gone", x -> x.delay(5), 5);
        asked(() -> saplingAndStumps(), "delay(60), from then on", x -> x.delay(60), 5);
    }

    @Says("of several the fewest")
    static void promise21OfSeveralTheFewest() {
        AvenueNods x = saplingAndStumps();
        x.turn(9, ELM);
        due("delay(0), in YEAR 0 it doesn't HEAR", x.delay(0), 0);
        due("delay(1)", x.delay(1), 1);
        due("delay(60)", x.delay(60), 1);
        x.turn(9, LIME);
        due("delay(60), at once", x.delay(60), 0);
    }

    @Says("so that most is KNOWN (counted by TREES)")
    static void promise21MostIsByTheEndNotByTheGale() {
        AvenueNods x = cut();
        for (int tree = 1; tree < 12; tree++) {
            x.turn(tree, STUMP);
        }
        x.turn(2, SAPLING);
        x.age(2, 4);
        x.turn(1, ELM);
        x.tell(0, 0);
        due("delay(1), in YEAR 1 both", x.delay(1), 1);
        due("delay(3), only the gale tells TREE 1, but both must be told in 3", x.delay(3), 1);
        due("delay(4), TREE 2 is told in YEAR 3 anyway", x.delay(4), 1);
        x.turn(1, STUMP);
        due("delay(4), whenever the gale is", x.delay(4), 0);
        due("delay(3), it must be the gale", x.delay(3), 1);
    }

    /** TREE 11, a sapling set now, HEARS in YEAR 4, ON 5: a later gale gives it no more YEARS than there are. */
    @Says("ON n YEARS (0 to 60) in all")
    static void promise21NYearsInAllHoweverLateTheGale() {
        State state = () -> {
            AvenueNods x = cut();
            for (int tree = 0; tree < 12; tree++) {
                x.turn(tree, STUMP);
            }
            x.turn(9, LIME);
            x.plant(11, SAPLING);
            x.tell(9, 0);
            return x;
        };
        asked(state, "when(11, 0)", x -> x.when(11, 0), 5);
        asked(state, "delay(3), not in 3", x -> x.delay(3), 0);
        asked(state, "delay(4), not in 4", x -> x.delay(4), 0);
        asked(state, "delay(5), in 5 anyway", x -> x.delay(5), 0);
    }

    // ---- promise 22

    @Says("MESSAGES 0 to 7")
    static void promise22MessagesAre0To7() {
        asked(AvenueNods::new, "side(0)", x -> x.side(0), 0);
        asked(AvenueNods::new, "side(7)", x -> x.side(7), 0);
        for (int message : outside(0, 7)) {
            refused("side(" + message + ")", x -> x.side(message), BEYOND);
        }
    }

    @Says("STATE: somebody KNOWS it.")
    static void promise22StateIfAnyTreeKnowsIt() {
        for (int known = 0; known < 12; known++) {
            int tree = known;
            State state = () -> {
                AvenueNods x = new AvenueNods();
                x.tell(tree, 7);
                return x;
            };
            refusedIn(state, "side(7), known by " + tree, x -> x.side(7), STATE);
            asked(state, "side(6), known by none", x -> x.side(6), 0);
        }
        refusedIn(Edges::most, "side(3), known by all", x -> x.side(3), STATE);
    }

    private static AvenueNods stumpsAt(int... trees) {
        AvenueNods x = new AvenueNods();
        for (int tree : trees) {
            x.turn(tree, STUMP);
        }
        return x;
    }

    @Says("STATE: somebody KNOWS it. NONE.")
    static void promise22NoneIfItIsNotHomeFromEither() {
        refusedIn(() -> stumpsAt(6, 7), "side(0)", x -> x.side(0), NONE);
        refusedIn(() -> stumpsAt(0, 1), "side(0), stumps at the gate", x -> x.side(0), NONE);
        State known = () -> {
            AvenueNods x = stumpsAt(6, 7);
            x.tell(6, 0);
            return x;
        };
        refusedIn(known, "side(0), STATE is asked ahead of it", x -> x.side(0), STATE);
    }

    @Says("to be HOME soonest (within 200 YEARS); of both 0.")
    static void promise22OfBoth0() {
        asked(() -> stumpsAt(), "side(0)", x -> x.side(0), 0);
        asked(() -> stumpsAt(0), "side(0), a stump is told but tells none", x -> x.side(0), 1);
        asked(() -> stumpsAt(1), "side(0), a stump at the other side", x -> x.side(0), 0);
        asked(() -> stumpsAt(2), "side(0), a stump on the way", x -> x.side(0), 1);
        State young = () -> {
            AvenueNods x = new AvenueNods();
            x.plant(0, GRAFT);
            x.plant(1, GRAFT);
            return x;
        };
        asked(young, "side(0), told to one that doesn't HEAR", x -> x.side(0), 0);
    }

    // ---- promise 23

    @Says("MESSAGES 0 to 7")
    static void promise23MessagesAre0To7() {
        for (int message : outside(0, 7)) {
            refused("needed(" + message + ")", x -> x.needed(message), BEYOND);
        }
    }

    @Says("of several the least. BEYOND.")
    static void promise23OfSeveralTheLeast() {
        asked(AvenueNods::new, "needed(0) of nothing", x -> x.needed(0), 0);
        asked(Edges::some, "needed(1), known by none", x -> x.needed(1), 0);
        asked(Edges::most, "needed(7), HOME without any", x -> x.needed(7), 0);
        asked(() -> toldAtGate(), "needed(0), all of side 0", x -> x.needed(0), 0);
        State above = () -> {
            AvenueNods x = cut();
            x.tell(9, 0);
            return x;
        };
        asked(above, "needed(0), 9 and 11", x -> x.needed(0), 9);
        State last = () -> {
            AvenueNods x = cut();
            x.tell(11, 0);
            return x;
        };
        asked(last, "needed(0), 11 alone", x -> x.needed(0), 11);
    }

    /**
     * TREE 6, a stump told in YEAR 0, LEANS in 999; TREE 8 does in 1002, so that it is HOME ON 1003. Sooner it comes
     * round by the TREES 7 and 9, 7 being told now. Without 8, or 10, it never does.
     */
    private static AvenueNods roundByTheLake(int year) {
        AvenueNods x = cut();
        x.meet(4, 1);
        x.turn(6, STUMP);
        x.turn(11, STUMP);
        x.tell(6, 0);
        goTo(x, year);
        x.tell(7, 0);
        return x;
    }

    @Says("HOME latest (within 200 YEARS; not at all: later than all)")
    static void promise23The200thYearIsAheadOfNotAtAll() {
        asked(() -> roundByTheLake(803), "home(0)", x -> x.home(0), 8);
        asked(() -> roundByTheLake(803), "needed(0), without 7 in 200, without 8 never", x -> x.needed(0), 8);
        asked(() -> roundByTheLake(802), "needed(0), without 7 in 201", x -> x.needed(0), 7);
    }

    @Says("(were it a STUMP now, and KNEW nothing)")
    static void promise23WhatItKnowsIsGoneToo() {
        State state = () -> {
            AvenueNods x = cut();
            x.turn(10, STUMP);
            x.tell(10, 0);
            x.tell(1, 0);
            return x;
        };
        asked(state, "home(0)", x -> x.home(0), 0);
        asked(state, "needed(0), a stump that KNOWS it", x -> x.needed(0), 10);
    }
}
