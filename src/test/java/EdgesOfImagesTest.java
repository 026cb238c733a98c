/** The edges of promises 33 to 37: image, undo, tear, count, status. */
public final class EdgesOfImagesTest extends Edges {
    public static void main(String[] args) throws Exception {
        runAll(EdgesOfImagesTest.class);
    }

    // ---- promise 33

    @Says("All that section 1 tells (THE TAPE not) is kept: 1.")
    static void promise33NothingChangesButWhatIsKept() {
        AvenueNods x = some();
        due("image()", x.image(), 1);
        var told = whole(x);
        var before = whole(some());
        for (var is : told.entrySet()) {
            String what = is.getKey();
            long due = before.get(what.startsWith("kept ") ? what.substring(5) : what.equals("undo()") ? "now(0)" : what);
            due("behind image(), " + what, is.getValue(), due);
        }
        asked(Edges::most, "image(), as it is", AvenueNods::image, 1);
    }

    @Says("All that section 1 tells (THE TAPE not) is kept: 1.")
    static void promise33OfANewObject() {
        AvenueNods x = new AvenueNods();
        due("image()", x.image(), 1);
        due("image() again", x.image(), 1);
        due("undo()", x.undo(), 0);
        due("tear()", x.tear(), 1);
        due("nothing was counted", x.status(-1), 0);
    }

    @Says("(THE TAPE not)")
    static void promise33TapeSheetsAndStatusAreNotKept() {
        AvenueNods x = some();
        x.undo();
        var told = whole(x);
        var before = whole(some());
        for (String what : before.keySet()) {
            if (what.startsWith("status(") || what.startsWith("write(") || what.equals("count(1)") || what.equals("avenue()")) {
                due("behind undo(), " + what, told.get(what), before.get(what));
            }
        }
    }

    // ---- promise 34

    @Says("NONE: nothing is kept.")
    static void promise34NoneIfNothingIsKept() {
        refusedIn(AvenueNods::new, "undo()", AvenueNods::undo, NONE);
        State torn = () -> {
            AvenueNods x = some();
            x.tear();
            return x;
        };
        refusedIn(torn, "undo()", AvenueNods::undo, NONE);
    }

    @Says("It becomes what was kept latest (which stays): YEAR.")
    static void promise34TheLatestStays() {
        AvenueNods x = new AvenueNods();
        x.years(3);
        x.image();
        x.years(4);
        x.image();
        x.years(5);
        for (int i = 0; i < 3; i++) {
            due("undo()", x.undo(), 7);
            due("YEAR", x.now(0), 7);
            x.years(2);
        }
        due("tear(), once for all", x.tear(), 1);
        due("undo()", x.undo(), NONE);
    }

    @Says("It becomes what was kept latest (which stays): YEAR.")
    static void promise34YearsFrom0To9999() {
        AvenueNods x = new AvenueNods();
        x.image();
        goTo(x, 9999);
        due("undo()", x.undo(), 0);
        due("years(1)", x.years(1), 0);
        due("AGE", x.of(0, 1), 41);
        AvenueNods y = inYear(9999);
        y.image();
        due("undo()", y.undo(), 9999);
        due("years(1)", y.years(1), STATE);
    }

    @Says("It becomes what was kept latest")
    static void promise34AllOfItComesBack() {
        AvenueNods x = some();
        x.undo();
        var told = whole(x);
        for (var is : told.entrySet()) {
            if (is.getKey().startsWith("kept ")) {
                due("behind undo(), " + is.getKey().substring(5), told.get(is.getKey().substring(5)), is.getValue());
            }
        }
        due("PAIRS", told.get("now(1)"), 63);
        due("KIND", told.get("of(9, 0)"), LIME);
        due("AGE", told.get("of(9, 1)"), 44);
        due("what is known", told.get("since(11, 7)"), 4);
        due("what was not known then", told.get("since(10, 7)"), NONE);
        due("what was not told then", told.get("since(7, 2)"), NONE);
    }

    @Says("It becomes what was kept latest (which stays)")
    static void promise34WhatIsDoneThenDoesNotReachWhatIsKept() {
        AvenueNods x = new AvenueNods();
        x.image();
        x.undo();
        x.tell(5, 5);
        x.plant(3, ELM);
        x.meet(2, 0);
        x.age(1, 1);
        x.gale();
        x.years(1);
        x.undo();
        x.tear();
        due("as it was", whole(x).equals(whole(new AvenueNods())) ? 1 : 0, 1);
    }

    // ---- promise 35

    @Says("Nothing is kept: 1 if something was, else 0.")
    static void promise35OnceAndAgain() {
        changes(AvenueNods::new, "tear() of nothing", AvenueNods::tear, 0);
        AvenueNods x = some();
        due("tear()", x.tear(), 1);
        due("tear() again", x.tear(), 0);
        due("YEAR", x.now(0), 6);
        due("undo()", x.undo(), NONE);
        due("YEAR", x.now(0), 6);
        due("image()", x.image(), 1);
        due("undo()", x.undo(), 6);
        due("tear()", x.tear(), 1);
        due("no finding but one", x.status(3), 2);
    }

    // ---- promise 36

    @Says("BEYOND: another what.")
    static void promise36WhatIs0To3() {
        asked(Edges::some, "count(0)", x -> x.count(0), 5);
        asked(Edges::some, "count(3)", x -> x.count(3), 5);
        for (int what : outside(0, 3)) {
            refused("count(" + what + ")", x -> x.count(what), BEYOND);
        }
    }

    @Says("0 TREES that are no LIMES (KIND not 0), 1 bytes of THE TAPE, 2 PAIRS that are INTRODUCED, 3 TREES that KNOW")
    static void promise36TheLeastAndTheMost() {
        int[] least = {0, 0, 6, 0};
        int[] among = {5, 14, 2, 5};
        int[] most = {12, 120, 6, 12};
        for (int i = 0; i < 4; i++) {
            int what = i;
            asked(AvenueNods::new, "count(" + what + ") of nothing", x -> x.count(what), least[what]);
            asked(Edges::some, "count(" + what + ") of something", x -> x.count(what), among[what]);
            asked(Edges::most, "count(" + what + ") of all", x -> x.count(what), most[what]);
        }
        due("no PAIR", cut().count(2), 0);
    }

    @Says("0 TREES that are no LIMES (KIND not 0)")
    static void promise36EachKindBut0IsNoLime() {
        for (int kind = 0; kind < 6; kind++) {
            AvenueNods x = new AvenueNods();
            x.turn(11, kind);
            due("kind " + kind, x.count(0), kind == LIME ? 0 : 1);
        }
    }

    @Says("3 TREES that KNOW anything")
    static void promise36OneMessageIsAnything() {
        for (int message = 0; message < 8; message++) {
            AvenueNods x = new AvenueNods();
            x.tell(0, message);
            due("message " + message, x.count(3), 1);
            x.tell(0, (message + 1) % 8);
            due("and another one", x.count(3), 1);
            x.tell(11, message);
            due("and another TREE", x.count(3), 2);
        }
    }

    // ---- promise 37

    @Says("which -1: all, 0 to 6: BEYOND to SIZE. BEYOND (counted from then on): another one.")
    static void promise37WhichIsMinus1To6() {
        int[] counted = {1, 0, 1, 1, 1, 1, 1};
        for (int i = 0; i < 7; i++) {
            int which = i;
            asked(Edges::some, "status(" + which + ")", x -> x.status(which), counted[which]);
        }
        asked(Edges::some, "status(-1)", x -> x.status(-1), 6);
        for (int which : outside(-1, 6)) {
            refused("status(" + which + ")", x -> x.status(which), BEYOND);
        }
    }

    @Says("BEYOND (counted from then on): another one.")
    static void promise37AnotherOneIsCountedFromThenOn() {
        AvenueNods x = new AvenueNods();
        due("status(7)", x.status(7), BEYOND);
        due("status(0)", x.status(0), 1);
        due("status(-2)", x.status(-2), BEYOND);
        due("status(-1)", x.status(-1), 2);
        due("status(0)", x.status(0), 2);
    }

    @Says("How many acts answered a finding ever (undo() takes none back)")
    static void promise37UndoTakesNoneBack() {
        AvenueNods x = new AvenueNods();
        x.image();
        x.of(12, 0);
        x.home(0);
        x.undo();
        due("status(-1)", x.status(-1), 2);
        due("status(0)", x.status(0), 1);
        due("status(3)", x.status(3), 1);
        x.tear();
        x.wipe();
        due("status(-1)", x.status(-1), 2);
    }

    @Says("FINDINGS are answers below -1000000000: -1000000001 BEYOND, -1000000002 FULL, -1000000003 KIND, -1000000004 "
        + "NONE, -1000000005 STATE, -1000000006 MISSING, -1000000007 SIZE (in longs, too).")
    static void promise37EachFindingIsOneOfSeven() {
        AvenueNods x = most();
        x.sheet(3, 0, 0);
        x.forget(0);
        long[] answers = {x.of(12, 0), x.feed(0, 1), x.as(0, ELM), x.home(0), x.tell(0, 1), x.lays(3), x.sheet(0, 8, -1)};
        for (int which = 0; which < 7; which++) {
            due("finding " + which, answers[which], -1000000001 - which);
            due("status(" + which + ")", x.status(which), 1);
        }
        due("status(-1)", x.status(-1), 7);
        due("a long BEYOND", x.write(4, 0, 0), -1000000001L);
        due("a long MISSING", x.write(3, 0, 0), -1000000006L);
        due("status(0)", x.status(0), 2);
        due("status(5)", x.status(5), 2);
    }

    @Says("How many acts answered a finding ever")
    static void promise37UpToThe512thCall() {
        AvenueNods x = new AvenueNods();
        for (int i = 0; i < 511; i++) {
            x.status(7);
        }
        due("status(-1), the 512th call", x.status(-1), 511);
        AvenueNods y = new AvenueNods();
        for (int i = 0; i < 511; i++) {
            y.undo();
        }
        due("status(3), the 512th call", y.status(3), 511);
    }

    @Says("one that answers a finding changes nothing but status()")
    static void promise37WhatIsNoFindingIsNotCounted() {
        AvenueNods x = some();
        x.wipe();
        x.avenue();
        x.forget(1);
        x.gale();
        x.last(1);
        x.needed(1);
        x.sheet(0, 64, 1);
        x.write(0, 0, NONE);
        x.write(0, 0, 0);
        due("status(-1)", x.status(-1), 6);
    }
}
