/** Promises 27 to 32: sheet, write, copy, lays, book, read. */
public final class SheetsTest {
    private static final Checks C = new Checks();
    private static final int[] BAD_SHEETS = {-1, 4, Integer.MIN_VALUE, Integer.MAX_VALUE};

    public static void main(String[] args) {
        sheet();
        write();
        copy();
        copyRefused();
        lays();
        book();
        read();
        notInImages();
        C.end();
    }

    private static void sheet() {
        AvenueNods x = new AvenueNods();
        for (int s : BAD_SHEETS) {
            C.due("sheet(" + s + ", 8, -1)", x.sheet(s, 8, -1), Checks.BEYOND);
        }
        for (int bits : new int[] {-1, 1, 7, 9, 32, 65, Integer.MIN_VALUE, Integer.MAX_VALUE}) {
            C.due("sheet(0, " + bits + ", -1)", x.sheet(0, bits, -1), Checks.BEYOND);
        }
        for (int bits : new int[] {0, 8, 16, 64}) {
            C.due("below 0", x.sheet(0, bits, -1), Checks.SIZE);
            C.due("below 0", x.sheet(0, bits, Integer.MIN_VALUE), Checks.SIZE);
            C.due("above 40", x.sheet(0, bits, 41), Checks.BEYOND);
            C.due("above 40", x.sheet(0, bits, Integer.MAX_VALUE), Checks.BEYOND);
            C.due("still MISSING", x.write(0, 0, 0), Checks.MISSING);
        }
        C.due("SIZE counted", x.status(6), 8);
        C.due("BEYOND counted", x.status(0), 20);
        C.due("sheet(3, 16, 40)", x.sheet(3, 16, 40), 40);
        C.due("all 0", x.write(3, 39, 5), 0);
        C.due("another is still MISSING", x.write(2, 0, 1), Checks.MISSING);
        C.due("sheet(3, 8, 41)", x.sheet(3, 8, 41), Checks.BEYOND);
        C.due("which changed nothing", x.write(3, 39, 6), 5);
        C.due("sheet(3, 16, 40) anew", x.sheet(3, 16, 40), 40);
        C.due("all 0 again", x.write(3, 39, 5), 0);
        C.due("sheet(3, 0, 40)", x.sheet(3, 0, 40), 0);
        C.due("MISSING", x.write(3, 0, 0), Checks.MISSING);
        C.due("sheet(3, 64, 0)", x.sheet(3, 64, 0), 0);
        C.due("not MISSING", x.write(3, 0, 0), Checks.BEYOND);
    }

    private static void write() {
        AvenueNods x = new AvenueNods();
        x.sheet(0, 8, 3);
        x.sheet(1, 16, 3);
        x.sheet(2, 64, 3);
        long[] put = {127, 128, 255, 256, 32767, 32768, 65535, 65536, -1, -129, Long.MAX_VALUE, Long.MIN_VALUE};
        long[] as8 = {127, -128, -1, 0, -1, 0, -1, 0, -1, 127, -1, 0};
        long[] as16 = {127, 128, 255, 256, 32767, -32768, -1, 0, -1, -129, -1, 0};
        for (int i = 0; i < put.length; i++) {
            x.write(0, 1, put[i]);
            x.write(1, 1, put[i]);
            x.write(2, 1, put[i]);
            C.due(put[i] + " in 8 bits", x.write(0, 1, 0), as8[i]);
            C.due(put[i] + " in 16 bits", x.write(1, 1, 0), as16[i]);
            C.due(put[i] + " in 64 bits", x.write(2, 1, 0), put[i]);
        }
        C.due("the number ahead", x.write(0, 0, 0), 0);
        C.due("the number behind", x.write(0, 2, 0), 0);
        for (int s : BAD_SHEETS) {
            C.due("write(" + s + ", 0, 0)", x.write(s, 0, 0), Checks.BEYOND);
        }
        C.due("MISSING is asked ahead of the number", x.write(3, -1, 0), Checks.MISSING);
        for (int i : new int[] {-1, 3, Integer.MIN_VALUE, Integer.MAX_VALUE}) {
            C.refused(x, "write(0, " + i + ", 0)", () -> x.write(0, i, 0), Checks.BEYOND);
        }
    }

    private static AvenueNods withNumbers() {
        AvenueNods x = new AvenueNods();
        x.sheet(0, 16, 6);
        x.sheet(1, 16, 4);
        x.sheet(2, 8, 6);
        for (int i = 0; i < 6; i++) {
            x.write(0, i, i + 1);
        }
        return x;
    }

    private static void holds(String what, AvenueNods x, int s, long... numbers) {
        for (int i = 0; i < numbers.length; i++) {
            C.due(what + ", number " + i, x.write(s, i, 0), numbers[i]);
        }
    }

    private static void copy() {
        AvenueNods x = withNumbers();
        C.due("copy", x.copy(0, 2, 1, 1, 3), 3);
        holds("copied", x, 1, 0, 3, 4, 5);
        holds("the source stays", x, 0, 1, 2, 3, 4, 5, 6);
        AvenueNods up = withNumbers();
        C.due("copy up within", up.copy(0, 0, 0, 2, 4), 4);
        holds("as they all were", up, 0, 1, 2, 1, 2, 3, 4);
        AvenueNods down = withNumbers();
        C.due("copy down within", down.copy(0, 2, 0, 0, 4), 4);
        holds("as they all were", down, 0, 3, 4, 5, 6, 5, 6);
        AvenueNods y = withNumbers();
        C.due("all of a sheet", y.copy(1, 0, 0, 2, 4), 4);
        holds("all of a sheet", y, 0, 1, 2, 0, 0, 0, 0);
        C.due("none", y.copy(0, 0, 1, 0, 0), 0);
        C.due("none, at the ends", y.copy(0, 6, 1, 4, 0), 0);
    }

    private static void copyRefused() {
        AvenueNods x = withNumbers();
        int max = Integer.MAX_VALUE;
        for (int s : BAD_SHEETS) {
            C.due("copy from " + s, x.copy(s, 0, 3, 0, 1), Checks.BEYOND);
            C.due("copy to " + s, x.copy(3, 0, s, 0, 1), Checks.BEYOND);
        }
        C.due("MISSING source", x.copy(3, 0, 2, -1, -1), Checks.MISSING);
        C.due("MISSING target", x.copy(2, 0, 3, -1, -1), Checks.MISSING);
        C.due("KIND", x.copy(0, 0, 2, 0, 1), Checks.KIND);
        C.due("KIND ahead of BEYOND", x.copy(2, -1, 0, 0, 100), Checks.KIND);
        int[][] calls = {{-1, 0, 1}, {0, -1, 1}, {0, 0, -1}, {3, 0, 4}, {0, 2, 3}, {0, 0, 5}, {7, 0, 0}, {0, 5, 0},
            {max, 0, 1}, {0, max, 1}, {0, 0, max}, {max, 0, max}, {1, 1, max}, {max, max, max}, {6, 0, 1}, {0, 4, 1},
            {Integer.MIN_VALUE, 0, 1}, {0, Integer.MIN_VALUE, 1}, {0, 0, Integer.MIN_VALUE}};
        for (int[] call : calls) {
            String told = "copy(0, " + call[0] + ", 1, " + call[1] + ", " + call[2] + ")";
            C.due(told, x.copy(0, call[0], 1, call[1], call[2]), Checks.BEYOND);
        }
        holds("nothing changed", x, 0, 1, 2, 3, 4, 5, 6);
        holds("nothing changed", x, 1, 0, 0, 0, 0);
    }

    private static void lays() {
        AvenueNods x = new AvenueNods();
        for (int s : BAD_SHEETS) {
            C.due("lays(" + s + ")", x.lays(s), Checks.BEYOND);
        }
        C.refused(x, "lays(0)", () -> x.lays(0), Checks.MISSING);
        x.sheet(0, 64, 5);
        x.write(0, 0, 999);
        x.write(0, 1, 1000);
        x.write(0, 2, -1);
        x.write(0, 3, 1L << 32);
        C.due("those out of reach are left out", x.lays(0), 2);
        int[] ages = {999, 40, 40, 40, 0, 40};
        for (int tree = 0; tree < ages.length; tree++) {
            C.due("AGE of " + tree, x.of(tree, 1), ages[tree]);
        }
        x.sheet(1, 16, 40);
        for (int i = 0; i < 40; i++) {
            x.write(1, i, i + 100);
        }
        C.due("those that stand for none are left out", x.lays(1), 12);
        C.due("AGE of 0", x.of(0, 1), 100);
        C.due("AGE of 11", x.of(11, 1), 111);
        x.sheet(2, 8, 2);
        x.write(2, 0, 200);
        x.write(2, 1, 300);
        C.due("200 in 8 bits is below 0, 300 is 44", x.lays(2), 1);
        C.due("AGE of 1", x.of(1, 1), 44);
        x.sheet(2, 8, 0);
        C.due("no numbers", x.lays(2), 0);
    }

    private static void book() {
        AvenueNods x = new AvenueNods();
        for (int s : BAD_SHEETS) {
            C.due("book(" + s + ", 0)", x.book(s, 0), Checks.BEYOND);
        }
        C.due("MISSING ahead of tree", x.book(0, 12), Checks.MISSING);
        x.sheet(0, 16, 7);
        x.sheet(1, 8, 3);
        for (int tree : new int[] {-1, 12, Integer.MIN_VALUE, Integer.MAX_VALUE}) {
            C.refused(x, "book(0, " + tree + ")", () -> x.book(0, tree), Checks.BEYOND);
        }
        x.tell(0, 7);
        x.tell(1, 0);
        String before = Checks.stateOf(x);
        C.due("book", x.book(0, 2), 7);
        C.due("book in 8 bits", x.book(1, 1), 3);
        C.that("book changes no tree", before.equals(Checks.stateOf(x)));
        x.sheet(2, 64, 40);
        C.due("the longest book", x.book(2, 0), 40);
        C.due("its last number", x.write(2, 39, 0), 129);
        holds("the book of 2", x, 0, 0, 0, 0, 0, 128, 129, 129);
        holds("the book of 1 in 8 bits", x, 1, 1, 1, -127);
    }

    private static void read() {
        AvenueNods x = new AvenueNods();
        for (int s : BAD_SHEETS) {
            C.due("read(" + s + ", 0, 1)", x.read(s, 0, 1), Checks.BEYOND);
        }
        C.due("MISSING ahead of trees", x.read(0, 12, 12), Checks.MISSING);
        x.sheet(0, 64, 0);
        for (int tree : new int[] {-1, 12, Integer.MIN_VALUE, Integer.MAX_VALUE}) {
            C.due("read(0, " + tree + ", 1)", x.read(0, tree, 1), Checks.BEYOND);
            C.due("read(0, 1, " + tree + ")", x.read(0, 1, tree), Checks.BEYOND);
        }
        C.refused(x, "read(0, 5, 5)", () -> x.read(0, 5, 5), Checks.BEYOND);
        C.due("no numbers: all pairs", x.read(0, 0, 1), 36);
        Checks.cutAll(x);
        x.tell(0, 0);
        x.sheet(0, 16, 8);
        x.book(0, 2);
        String before = Checks.stateOf(x);
        C.due("2 hears in YEAR 3: as lime, sapling, graft; 0 told it: as lime, sapling", x.read(0, 2, 0), 6);
        C.due("and of 0 it is told by any", x.read(0, 2, 11), 18);
        C.that("read changes nothing", before.equals(Checks.stateOf(x)));
        x.write(0, 3, 1);
        C.due("0 a graft: known in YEAR 1, so of 2 numbers 0 0 1", x.read(0, 2, 0), 0);
        x.write(0, 2, 1);
        C.due("as a graft, 2 as lime, elm, sapling, oak, graft", x.read(0, 2, 0), 5);
        x.write(0, 7, 1 + 256);
        C.due("no set", x.read(0, 2, 0), 0);
        x.write(0, 7, 1);
        x.write(0, 0, 1);
        C.due("the number ON 0 YEARS too", x.read(0, 2, 0), 0);
        AvenueNods y = new AvenueNods();
        y.tell(5, 7);
        y.sheet(1, 8, 1);
        y.book(1, 5);
        C.due("128 doesn't go into 8 bits", y.read(1, 5, 4), 0);
        y.sheet(1, 16, 1);
        y.book(1, 5);
        C.due("into 16 it does", y.read(1, 5, 4), 36);
    }

    private static void notInImages() {
        AvenueNods x = new AvenueNods();
        x.image();
        x.sheet(0, 64, 1);
        x.write(0, 0, 77);
        x.undo();
        C.due("sheets stay as they are", x.write(0, 0, 0), 77);
    }
}
