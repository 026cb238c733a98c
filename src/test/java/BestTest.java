/** Promises 18 to 23: introduce, lime, kind, delay, side, needed. */
public final class BestTest {
    private static final Checks C = new Checks();
    private static final int[] BAD_TREES = {-1, 12, Integer.MIN_VALUE, Integer.MAX_VALUE};
    private static final int[] BAD_MESSAGES = {-1, 8, Integer.MIN_VALUE, Integer.MAX_VALUE};

    public static void main(String[] args) {
        introduce();
        lime();
        kind();
        delay();
        side();
        needed();
        nothingChanges();
        refused();
        C.end();
    }

    private static void introduce() {
        AvenueNods x = new AvenueNods();
        x.tell(0, 0);
        C.due("all are", x.introduce(0), Checks.NONE);
        Checks.cutAll(x);
        C.due("none is sooner than side 0 alone", x.introduce(0), Checks.NONE);
        x.turn(4, 3);
        C.due("at 0 and 1 as soon: the least", x.introduce(0), 0);
        x.turn(1, 3);
        C.due("at 0 is a stump", x.introduce(0), 1);
        x.turn(3, 3);
        C.due("at 1 too", x.introduce(0), Checks.NONE);
        x.turn(3, 0);
        x.turn(4, 1);
        C.due("home as it is, by the elm", x.home(0), 21);
        C.due("sooner round it", x.introduce(0), 1);
        C.due("of one that none knows", x.introduce(1), Checks.NONE);
    }

    private static void lime() {
        AvenueNods x = new AvenueNods();
        x.tell(0, 0);
        C.due("all are limes", x.lime(0), Checks.NONE);
        Checks.cutAll(x);
        x.turn(2, 1);
        x.turn(7, 1);
        C.due("home, by the elm", x.home(0), 21);
        C.due("the elm on the way", x.lime(0), 2);
        x.turn(4, 3);
        C.due("the stump on the way", x.lime(0), 4);
        x.turn(6, 3);
        C.due("two stumps", x.lime(0), Checks.NONE);
        AvenueNods y = new AvenueNods();
        Checks.cutAll(y);
        y.tell(0, 0);
        y.turn(4, 5);
        C.due("a lime for the graft is not sooner", y.lime(0), Checks.NONE);
        AvenueNods w = new AvenueNods();
        Checks.cutAll(w);
        w.tell(0, 7);
        w.turn(0, 4);
        C.due("the oak at the gate", w.lime(7), 0);
        w.turn(4, 1);
        C.due("the oak holds it up for more than the elm", w.lime(7), 0);
        w.turn(0, 1);
        w.turn(4, 4);
        C.due("the other way round", w.lime(7), 4);
        AvenueNods z = new AvenueNods();
        Checks.cutAll(z);
        z.years(1);
        z.turn(8, 2);
        z.turn(6, 2);
        z.age(6, 0);
        z.age(8, 0);
        z.tell(6, 3);
        z.tell(8, 3);
        C.due("as it is, sapling 8 LEANS 7 at an AGE of 6, known for 5; 6 at 7, known for 6", z.home(3), 7);
        C.due("AGE and what it KNOWS stay", z.lime(3), 8);
    }

    private static void kind() {
        AvenueNods x = new AvenueNods();
        x.tell(0, 0);
        C.due("a graft LEANS 1", x.kind(2, 0), 5);
        C.due("on the other side too", x.kind(3, 0), 5);
        C.due("at the terrace over the way none is sooner than side 0", x.kind(11, 0), 0);
        C.due("at the terrace too", x.kind(10, 0), 0);
        x.age(2, 0);
        Checks.cutAll(x);
        C.due("young: in YEAR 4 it takes it; LEANS 1 from YEAR 9 on, as 3 in 6: the lime", x.kind(2, 0), 0);
        x.age(2, 3);
        C.due("in YEAR 3 it is 7, LEANS 4; in 5 it LEANS 2: sooner than the lime", x.kind(2, 0), 5);
        C.due("of one that none knows", x.kind(0, 1), Checks.NONE);
        x.turn(6, 3);
        C.due("a stump is on the way", x.kind(4, 0), Checks.NONE);
        C.due("it is it", x.kind(6, 0), 5);
    }

    private static void delay() {
        AvenueNods x = new AvenueNods();
        C.due("nothing is known", x.delay(60), 0);
        Checks.cutAll(x);
        for (int tree = 1; tree < 11; tree++) {
            x.turn(tree, 3);
        }
        x.turn(11, 1);
        x.tell(0, 0);
        C.due("no YEAR", x.delay(0), 0);
        C.due("the elm HEARS in YEAR 1", x.delay(5), 1);
        C.due("the elm HEARS in YEAR 1", x.delay(1), 1);
        C.due("one alone", x.now(4), 1);
        x.turn(1, 2);
        x.age(1, 0);
        C.due("in YEAR 5 the elm and the sapling both", x.delay(10), 5);
        C.due("in YEAR 4 only one of them", x.delay(4), 1);
        x.turn(10, 0);
        x.tell(1, 7);
        C.due("and two messages, as many", x.delay(60), 5);
        AvenueNods y = new AvenueNods();
        y.tell(0, 0);
        C.due("at once all", y.delay(60), 0);
        AvenueNods z = new AvenueNods();
        for (int tree = 1; tree < 12; tree++) {
            z.turn(tree, 3);
        }
        z.tell(0, 0);
        z.turn(2, 1);
        C.due("told by the gale in YEAR 1, and by none till 4", z.delay(4), 1);
        C.due("told in YEAR 4, within the 5, whenever the gale is", z.delay(5), 0);
        z.plant(2, 2);
        C.due("too young for all of the 3", z.delay(3), 0);
        C.due("too young for all of the 4", z.delay(4), 0);
    }

    private static void side() {
        AvenueNods x = new AvenueNods();
        C.due("both", x.side(0), 0);
        x.turn(2, 1);
        C.due("round the elm", x.side(0), 1);
        x.turn(3, 3);
        C.due("by the elm", x.side(0), 0);
        x.turn(1, 5);
        C.due("still", x.side(0), 0);
        x.turn(2, 3);
        C.due("neither", x.side(0), Checks.NONE);
        x.turn(3, 0);
        x.turn(1, 3);
        C.due("the stump at the gate LEANS 999, and none is INTRODUCED to the other way", x.side(0), Checks.NONE);
        x.turn(1, 0);
        x.turn(0, 3);
        C.due("the stump at the gate may be told but tells none", x.side(0), 1);
        x.tell(11, 0);
        C.refused(x, "somebody KNOWS it", () -> x.side(0), Checks.STATE);
        C.due("another one", x.side(1), 1);
    }

    private static void needed() {
        AvenueNods x = new AvenueNods();
        C.due("none knows", x.needed(0), 0);
        x.tell(2, 0);
        C.due("the one that knows it", x.needed(0), 2);
        x.tell(3, 0);
        C.due("none, or all: the least", x.needed(0), 0);
        x.turn(6, 1);
        C.due("without 7 or 9 the elm must tell it on: 18 YEARS, without 5 but 16", x.needed(0), 7);
        x.turn(6, 0);
        x.turn(9, 3);
        C.due("past the stump by 6 and 8", x.needed(0), 6);
        x.tell(10, 0);
        C.due("home now: but not without it", x.needed(0), 10);
        x.tell(11, 0);
        C.due("home by both", x.needed(0), 0);
    }

    private static void nothingChanges() {
        AvenueNods x = new AvenueNods();
        x.tell(0, 0);
        x.turn(4, 3);
        x.plant(5, 2);
        x.meet(1, 0);
        x.years(2);
        String before = Checks.stateOf(x);
        x.introduce(0);
        x.lime(0);
        x.kind(4, 0);
        x.delay(60);
        x.side(1);
        x.needed(0);
        x.home(0);
        x.last(0);
        x.when(3, 0);
        C.that("what is best changes nothing", before.equals(Checks.stateOf(x)));
        C.due("since stays", x.since(0, 0), 0);
    }

    private static void refused() {
        AvenueNods x = new AvenueNods();
        x.tell(0, 0);
        for (int message : BAD_MESSAGES) {
            C.due("introduce(" + message + ")", x.introduce(message), Checks.BEYOND);
            C.due("lime(" + message + ")", x.lime(message), Checks.BEYOND);
            C.due("kind(0, " + message + ")", x.kind(0, message), Checks.BEYOND);
            C.due("side(" + message + ")", x.side(message), Checks.BEYOND);
            C.due("needed(" + message + ")", x.needed(message), Checks.BEYOND);
        }
        for (int tree : BAD_TREES) {
            C.due("kind(" + tree + ", 0)", x.kind(tree, 0), Checks.BEYOND);
        }
        for (int n : new int[] {-1, 61, Integer.MIN_VALUE, Integer.MAX_VALUE}) {
            C.due("delay(" + n + ")", x.delay(n), Checks.BEYOND);
        }
        C.due("counted", x.status(0), 28);
        C.due("counted", x.status(-1), 28);
    }
}
