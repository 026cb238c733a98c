/** Promises 33 to 37: image, undo, tear, count, status. */
public final class ImagesTest {
    private static final Checks C = new Checks();

    public static void main(String[] args) {
        undo();
        tear();
        count();
        status();
        C.end();
    }

    private static AvenueNods told() {
        AvenueNods x = new AvenueNods();
        x.years(4);
        x.tell(0, 0);
        x.turn(3, 4);
        x.age(5, 6);
        x.meet(2, 0);
        x.years(3);
        return x;
    }

    private static void changeAll(AvenueNods x) {
        x.years(9);
        x.plant(3, 1);
        x.age(5, 99);
        x.meet(2, 1);
        x.meet(4, 0);
        x.forget(0);
        x.tell(8, 6);
    }

    private static void undo() {
        AvenueNods x = told();
        C.refused(x, "undo() of nothing", x::undo, Checks.NONE);
        String first = Checks.stateOf(x);
        C.due("image", x.image(), 1);
        C.that("image changes nothing", first.equals(Checks.stateOf(x)));
        changeAll(x);
        C.due("undo", x.undo(), 7);
        C.that("undo brings back all", first.equals(Checks.stateOf(x)));
        C.due("since too", x.since(0, 0), 4);
        changeAll(x);
        C.due("it stays", x.undo(), 7);
        C.that("undo brings back all again", first.equals(Checks.stateOf(x)));
        changeAll(x);
        String second = Checks.stateOf(x);
        C.due("image of another", x.image(), 1);
        x.years(1);
        C.due("the latest", x.undo(), 16);
        C.that("the latest", second.equals(Checks.stateOf(x)));
        AvenueNods y = told();
        y.image();
        Checks.feedAll(y, "cut 1");
        y.of(12, 0);
        C.due("undo", y.undo(), 7);
        C.due("THE TAPE stays", y.count(1), 5);
        C.due("what was counted stays", y.status(-1), 1);
    }

    private static void tear() {
        AvenueNods x = told();
        C.due("tear of nothing", x.tear(), 0);
        x.image();
        x.image();
        C.due("tear", x.tear(), 1);
        C.due("tear again", x.tear(), 0);
        C.due("undo", x.undo(), Checks.NONE);
        C.due("YEAR stays", x.now(0), 7);
        x.image();
        C.due("undo", x.undo(), 7);
    }

    private static void count() {
        AvenueNods x = new AvenueNods();
        for (int what = 0; what < 4; what++) {
            C.due("count(" + what + ")", x.count(what), what == 2 ? 6 : 0);
        }
        for (int kind = 0; kind < 6; kind++) {
            x.turn(11 - kind, kind);
        }
        C.due("count(0)", x.count(0), 5);
        x.turn(0, 5);
        Checks.feedAll(x, "?;!");
        x.meet(0, 0);
        x.meet(5, 0);
        x.tell(11, 0);
        x.tell(11, 7);
        x.tell(0, 5);
        C.due("count(0)", x.count(0), 6);
        C.due("count(1)", x.count(1), 3);
        C.due("count(2)", x.count(2), 4);
        C.due("count(3)", x.count(3), 2);
        for (int what : new int[] {-1, 4, Integer.MIN_VALUE, Integer.MAX_VALUE}) {
            C.refused(x, "count(" + what + ")", () -> x.count(what), Checks.BEYOND);
        }
    }

    private static void status() {
        AvenueNods x = new AvenueNods();
        for (int which = -1; which < 7; which++) {
            C.due("status(" + which + ")", x.status(which), 0);
        }
        C.due("another one", x.status(7), Checks.BEYOND);
        C.due("counted from then on", x.status(0), 1);
        C.due("another one", x.status(-2), Checks.BEYOND);
        C.due("another one", x.status(Integer.MIN_VALUE), Checks.BEYOND);
        C.due("another one", x.status(Integer.MAX_VALUE), Checks.BEYOND);
        C.due("counted", x.status(0), 4);
        for (int i = 0; i < 30; i++) {
            x.feed(0, 4);
        }
        x.feed(0, 1);
        x.feed(0, 1);
        x.as(0, 1);
        x.home(0);
        x.undo();
        x.when(0, 0);
        x.tell(0, 0);
        x.tell(0, 0);
        x.lays(0);
        x.write(1, 0, 0);
        x.sheet(0, 8, -1);
        int[] due = {4, 2, 1, 3, 1, 2, 1};
        for (int which = 0; which < 7; which++) {
            C.due("status(" + which + ")", x.status(which), due[which]);
        }
        C.due("status(-1)", x.status(-1), 14);
    }
}
