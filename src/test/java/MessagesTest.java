/** Promises 9 to 17: tell, forget, years, gale, now, on, when, home, last. */
public final class MessagesTest {
    private static final Checks C = new Checks();
    private static final int[] BAD_TREES = {-1, 12, Integer.MIN_VALUE, Integer.MAX_VALUE};
    private static final int[] BAD_MESSAGES = {-1, 8, Integer.MIN_VALUE, Integer.MAX_VALUE};

    public static void main(String[] args) {
        tell();
        forget();
        yearsOfLimes();
        yearsOfKinds();
        yearsOfGrafts();
        yearsOfStumps();
        yearsRefused();
        gale();
        now();
        on();
        when();
        home();
        last();
        farOn();
        C.end();
    }

    private static void tell() {
        AvenueNods x = new AvenueNods();
        x.turn(9, 3);
        C.due("tell", x.tell(0, 7), 1);
        C.due("tell one that doesn't HEAR", x.tell(9, 7), 2);
        C.due("tell another", x.tell(9, 0), 1);
        C.refused(x, "tell again", () -> x.tell(9, 0), Checks.STATE);
        C.due("of(9, 5)", x.of(9, 5), 129);
        AvenueNods y = new AvenueNods();
        for (int tree : BAD_TREES) {
            C.due("tell(" + tree + ", 0)", y.tell(tree, 0), Checks.BEYOND);
        }
        for (int message : BAD_MESSAGES) {
            C.due("tell(0, " + message + ")", y.tell(0, message), Checks.BEYOND);
        }
        C.due("nothing is known", y.now(4), 0);
    }

    private static void forget() {
        AvenueNods x = new AvenueNods();
        x.tell(0, 2);
        x.tell(11, 2);
        x.tell(11, 3);
        C.due("forget", x.forget(2), 2);
        C.due("forget again", x.forget(2), 0);
        C.due("the others stay", x.now(3), 8);
        C.due("tell anew", x.tell(0, 2), 1);
        for (int message : BAD_MESSAGES) {
            C.refused(x, "forget(" + message + ")", () -> x.forget(message), Checks.BEYOND);
        }
    }

    /** Told at the gate in YEAR 0, limes lean up in the YEARS 3, 6, .. 15, and nod across in the YEAR behind. */
    private static void yearsOfLimes() {
        AvenueNods x = new AvenueNods();
        x.tell(0, 4);
        C.due("15 YEARS", x.years(15), 0);
        C.due("YEAR", x.now(0), 15);
        C.due("home() then", x.home(4), 1);
        C.due("1 YEAR", x.years(1), 16);
        for (int place = 1; place < 6; place++) {
            C.due("since at place " + place, x.since(2 * place, 4), 3 * place);
        }
        C.due("the last", x.since(11, 4), Checks.NONE);
        C.due("1 YEAR", x.years(1), 16);
        for (int place = 0; place < 6; place++) {
            C.due("since at place " + place + " over the way", x.since(2 * place + 1, 4), 3 * place + 1);
        }
        C.due("AGES", x.now(5), 12 * 57);
        C.due("100 YEARS", x.years(100), 16);
        C.due("since stays", x.since(2, 4), 3);
        AvenueNods y = new AvenueNods();
        y.tell(1, 7);
        C.due("HOME, and nothing asked before", y.years(16), 128);
        C.due("from side 1 it is nodded too", y.since(0, 7), 1);
    }

    private static void yearsOfKinds() {
        AvenueNods x = new AvenueNods();
        Checks.cutAll(x);
        x.turn(2, 1);
        x.turn(4, 4);
        x.turn(6, 2);
        x.age(6, 0);
        x.tell(0, 0);
        x.years(50);
        C.due("the elm doesn't HEAR in YEAR 3", x.since(2, 0), 4);
        C.due("it LEANS 7", x.since(4, 0), 11);
        C.due("the oak LEANS 14", x.since(6, 0), 25);
        C.due("the sapling, grown, LEANS 3", x.since(8, 0), 28);
        C.due("cut pairs tell nothing", x.of(1, 5), 0);
        AvenueNods y = new AvenueNods();
        Checks.cutAll(y);
        y.meet(1, 1);
        y.plant(3, 2);
        y.tell(2, 0);
        y.years(5);
        C.due("a sapling takes it in the YEAR in which its AGE becomes 5", y.since(3, 0), 4);
        y.plant(0, 2);
        y.tell(0, 1);
        y.years(20);
        C.due("LEANS fall as it grows: 6 at an AGE of 7, when it is known for 6 YEARS", y.since(2, 1), 11);
        C.due("no pair at the gate", y.of(1, 5), 0);
        AvenueNods z = new AvenueNods();
        z.turn(0, 1);
        z.tell(0, 0);
        z.age(3, 18);
        z.turn(3, 2);
        z.meet(0, 0);
        z.tell(3, 1);
        z.years(4);
        C.due("a sapling's NODS are 1 again from an AGE of 20 on", z.since(2, 1), 1);
        z.meet(0, 1);
        z.years(1);
        C.due("as soon as it is INTRODUCED, what is due is told", z.since(1, 0), 4);
    }

    private static void yearsOfGrafts() {
        AvenueNods x = new AvenueNods();
        x.plant(2, 5);
        x.tell(3, 0);
        x.tell(0, 1);
        x.tell(1, 1);
        x.years(6);
        C.due("from ACROSS a graft takes it at any AGE", x.since(2, 0), 1);
        C.due("from below not before 5", x.since(2, 1), 4);
        AvenueNods y = new AvenueNods();
        Checks.cutAll(y);
        y.plant(2, 5);
        y.tell(3, 0);
        y.tell(0, 1);
        y.years(4);
        C.due("nothing yet", y.of(2, 5), 0);
        y.years(1);
        C.due("from below at 5", y.of(2, 5), 2);
        C.due("from below at 5", y.since(2, 1), 4);
    }

    private static void yearsOfStumps() {
        AvenueNods x = new AvenueNods();
        Checks.cutAll(x);
        x.turn(4, 3);
        x.tell(4, 0);
        for (int i = 0; i < 9; i++) {
            x.years(100);
        }
        x.years(99);
        C.due("YEAR", x.now(0), 999);
        C.due("998 YEARS are not enough", x.of(6, 5), 0);
        C.due("when", x.when(6, 0), 1);
        x.years(1);
        C.due("a stump tells in 999 YEARS", x.since(6, 0), 999);
        C.due("AGE at most", x.of(6, 1), 999);
    }

    private static void yearsRefused() {
        AvenueNods x = new AvenueNods();
        for (int n : new int[] {0, -1, 101, Integer.MIN_VALUE, Integer.MAX_VALUE}) {
            C.due("years(" + n + ")", x.years(n), Checks.BEYOND);
        }
        C.due("no YEAR went", x.now(0), 0);
        for (int i = 0; i < 99; i++) {
            x.years(100);
        }
        C.refused(x, "years(100) at 9900", () -> x.years(100), Checks.STATE);
        C.due("BEYOND is asked first", x.years(101), Checks.BEYOND);
        C.due("years(99)", x.years(99), 0);
        C.due("YEAR", x.now(0), 9999);
        C.due("years(1) at 9999", x.years(1), Checks.STATE);
        x.tell(0, 0);
        C.due("ON goes on past it, since no YEAR goes", x.home(0), 16);
        C.due("YEAR", x.now(0), 9999);
    }

    private static void gale() {
        AvenueNods x = new AvenueNods();
        C.due("nothing is known", x.gale(), 0);
        Checks.cutAll(x);
        x.turn(1, 1);
        x.turn(2, 4);
        x.turn(3, 3);
        x.plant(4, 2);
        x.plant(5, 5);
        x.tell(3, 0);
        x.tell(6, 6);
        x.tell(7, 6);
        C.due("gale in YEAR 0: message 0 to 8 trees, 6 to 6", x.gale(), 8 + 6);
        C.due("the elm not", x.of(1, 5), 0);
        C.due("the oak not", x.of(2, 5), 0);
        C.due("the stump what it knew", x.of(3, 5), 1);
        C.due("the sapling not", x.of(4, 5), 0);
        C.due("the graft does, as from ACROSS", x.of(5, 5), 65);
        C.due("a lime", x.of(0, 5), 65);
        C.due("AGES stay", x.of(5, 1), 0);
        C.due("YEAR stays", x.now(0), 0);
        x.forget(6);
        x.tell(0, 6);
        x.years(1);
        C.due("gale in YEAR 1: message 0 to elm and oak, 6 to 9 trees", x.gale(), 2 + 9);
        C.due("since this YEAR", x.since(1, 0), 1);
        C.due("who knew it, since when it did", x.since(0, 0), 0);
        C.due("again", x.gale(), 0);
    }

    private static void now() {
        AvenueNods x = new AvenueNods();
        x.tell(10, 1);
        x.tell(11, 2);
        x.tell(9, 3);
        x.tell(8, 3);
        x.meet(2, 0);
        x.age(0, 7);
        x.years(1);
        C.due("now(0)", x.now(0), 1);
        C.due("now(1)", x.now(1), 59);
        C.due("now(2)", x.now(2), 6);
        C.due("now(3)", x.now(3), 14);
        C.due("now(4)", x.now(4), 4);
        C.due("now(5)", x.now(5), 11 * 41 + 8);
        for (int what : new int[] {-1, 6, Integer.MIN_VALUE, Integer.MAX_VALUE}) {
            C.refused(x, "now(" + what + ")", () -> x.now(what), Checks.BEYOND);
        }
    }

    private static void on() {
        AvenueNods x = new AvenueNods();
        x.tell(0, 0);
        x.tell(1, 1);
        String before = Checks.stateOf(x);
        C.due("on(0, 0)", x.on(0, 0), 1);
        C.due("on(1, 1)", x.on(1, 1), 2);
        C.due("on(1, 2)", x.on(1, 2), 3);
        C.due("on(2, 3)", x.on(2, 3), 0);
        C.due("on(2, 4)", x.on(2, 4), 1);
        C.due("on(2, 5)", x.on(2, 5), 3);
        C.due("on(11, 200)", x.on(11, 200), 3);
        C.that("on changes nothing", before.equals(Checks.stateOf(x)));
        C.due("on(12, 0)", x.on(12, 0), Checks.BEYOND);
        C.due("on(-1, 0)", x.on(-1, 0), Checks.BEYOND);
        C.due("on(0, -1)", x.on(0, -1), Checks.BEYOND);
        C.due("on(0, 201)", x.on(0, 201), Checks.BEYOND);
        C.refused(x, "on(0, max)", () -> x.on(0, Integer.MAX_VALUE), Checks.BEYOND);
        C.refused(x, "on(max, 0)", () -> x.on(Integer.MAX_VALUE, 0), Checks.BEYOND);
    }

    private static void when() {
        AvenueNods x = new AvenueNods();
        x.years(2);
        x.tell(0, 5);
        for (int place = 0; place < 6; place++) {
            C.due("when at " + place, x.when(2 * place, 5), place == 0 ? 0 : 3 * place + 1);
            C.due("when over the way at " + place, x.when(2 * place + 1, 5), 3 * place + 2);
        }
        x.tell(11, 7);
        C.due("when of the last message", x.when(10, 7), 2);
        C.due("home of the last message", x.home(7), 0);
        x.forget(7);
        C.due("when of the last message", x.when(10, 7), Checks.NONE);
        C.due("home of the last message", x.home(7), Checks.NONE);
        C.refused(x, "when of what none knows", () -> x.when(0, 4), Checks.NONE);
        for (int tree : BAD_TREES) {
            C.due("when(" + tree + ", 0)", x.when(tree, 0), Checks.BEYOND);
        }
        for (int message : BAD_MESSAGES) {
            C.due("when(0, " + message + ")", x.when(0, message), Checks.BEYOND);
        }
    }

    /** A stump that was told long ago tells in its YEAR 999: so the edge of the 200 YEARS can be met just so. */
    private static void farOn() {
        AvenueNods x = new AvenueNods();
        Checks.cutAll(x);
        x.turn(8, 3);
        x.tell(8, 0);
        for (int i = 0; i < 8; i++) {
            x.years(100);
        }
        C.due("when: YEAR 999 is the 200th ON from 800", x.when(10, 0), 200);
        C.due("home", x.home(0), 200);
        C.due("last: the others never", x.last(0), 0);
        C.due("on 199", x.on(10, 199), 0);
        C.due("on 200", x.on(10, 200), 1);
        C.due("needed", x.needed(0), 8);
        C.due("kind", x.kind(10, 0), 0);
        AvenueNods y = new AvenueNods();
        Checks.cutAll(y);
        y.turn(8, 3);
        y.tell(8, 0);
        for (int i = 0; i < 7; i++) {
            y.years(100);
        }
        y.years(99);
        C.due("when: 201 is too far", y.when(10, 0), Checks.NONE);
        C.due("home: 201 is too far", y.home(0), Checks.NONE);
        C.due("introduce", y.introduce(0), Checks.NONE);
        C.due("lime", y.lime(0), 8);
        C.due("kind as what it is", y.kind(10, 0), Checks.NONE);
    }

    private static void home() {
        AvenueNods x = new AvenueNods();
        x.tell(0, 5);
        C.due("home", x.home(5), 16);
        x.tell(11, 5);
        C.due("home now", x.home(5), 0);
        C.refused(x, "home of what none knows", () -> x.home(4), Checks.NONE);
        AvenueNods y = new AvenueNods();
        y.tell(9, 0);
        C.due("home by side 1", y.home(0), 4);
        y.turn(11, 3);
        C.due("home round by side 0: nod in YEAR 1, lean in 4", y.home(0), 5);
        y.turn(10, 3);
        C.due("not home", y.home(0), Checks.NONE);
        for (int message : BAD_MESSAGES) {
            C.refused(y, "home(" + message + ")", () -> y.home(message), Checks.BEYOND);
        }
    }

    private static void last() {
        AvenueNods x = new AvenueNods();
        C.due("none knows: the least", x.last(0), 0);
        x.tell(0, 0);
        C.due("last", x.last(0), 11);
        x.tell(1, 0);
        C.due("of both the least", x.last(0), 10);
        x.turn(7, 3);
        C.due("one that doesn't at all", x.last(0), 7);
        x.turn(4, 3);
        C.due("of several the least", x.last(0), 4);
        AvenueNods y = new AvenueNods();
        y.tell(10, 0);
        C.due("nothing goes down", y.last(0), 0);
        for (int tree = 0; tree < 10; tree++) {
            y.tell(tree, 0);
        }
        C.due("one is left", y.last(0), 11);
        y.plant(1, 3);
        C.due("two are left, one at all", y.last(0), 1);
        y.tell(1, 0);
        y.tell(11, 0);
        C.due("all know: of several the least", y.last(0), 0);
        for (int message : BAD_MESSAGES) {
            C.refused(y, "last(" + message + ")", () -> y.last(message), Checks.BEYOND);
        }
    }
}
