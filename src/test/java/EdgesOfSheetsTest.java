/** The edges of promises 27 to 32: sheet, write, copy, lays, book, read. */
public final class EdgesOfSheetsTest extends Edges {
    private static final int MIN = Integer.MIN_VALUE;
    private static final int MAX = Integer.MAX_VALUE;

    public static void main(String[] args) throws Exception {
        runAll(EdgesOfSheetsTest.class);
    }

    /** A new object with one sheet, which holds 1, 2, 3, .. */
    private static AvenueNods withSheet(int s, int bits, int n) {
        AvenueNods x = new AvenueNods();
        x.sheet(s, bits, n);
        for (int i = 0; i < n; i++) {
            x.write(s, i, i + 1);
        }
        return x;
    }

    private static void holds(String what, AvenueNods x, int s, long... numbers) {
        for (int i = 0; i < numbers.length; i++) {
            due(what + ", number " + i, x.write(s, i, 0), numbers[i]);
        }
        due(what + ", one more", x.write(s, numbers.length, 0), BEYOND);
    }

    // ---- promise 27

    @Says("SHEETS 0 to 3")
    static void promise27SheetsAre0To3() {
        changes(Edges::some, "sheet(0, 0, 0)", x -> x.sheet(0, 0, 0), 0, "write(0, 0)", "write(0, 1)", "write(0, 2)",
            "write(0, 3)", "write(0, 39)", "write(0, 40)");
        changes(Edges::some, "sheet(3, 8, 1)", x -> x.sheet(3, 8, 1), 1, "write(3, 0)", "write(3, 1)", "write(3, 2)",
            "write(3, 3)", "write(3, 39)", "write(3, 40)");
        for (int s : outside(0, 3)) {
            for (int bits : new int[] {0, 8, 16, 64}) {
                refused("sheet(" + s + ", " + bits + ", 0)", x -> x.sheet(s, bits, 0), BEYOND);
            }
        }
    }

    @Says("of 8, 16 or 64 bits; bits 0: it is MISSING: n (0 if it is MISSING). BEYOND: no such sheet, other bits.")
    static void promise27BitsAre0Or8Or16Or64() {
        for (int bits : new int[] {8, 16, 64}) {
            due("sheet(0, " + bits + ", 2)", some().sheet(0, bits, 2), 2);
        }
        due("sheet(0, 0, 2)", some().sheet(0, 0, 2), 0);
        for (int bits : new int[] {-1, 1, 7, 9, 15, 17, 24, 32, 63, 65, 128, -8, 256, 65536, 65544, MIN, MAX}) {
            refused("sheet(0, " + bits + ", 0)", x -> x.sheet(0, bits, 0), BEYOND);
        }
    }

    @Says("SIZE: n is below 0 (also with bits 0).")
    static void promise27SizeIfNIsBelow0() {
        for (int bits : new int[] {0, 8, 16, 64}) {
            for (int n : new int[] {-1, MIN}) {
                refused("sheet(0, " + bits + ", " + n + ")", x -> x.sheet(0, bits, n), SIZE);
                refused("sheet(3, " + bits + ", " + n + ")", x -> x.sheet(3, bits, n), SIZE);
            }
        }
    }

    @Says("BEYOND: n is above 40 (also with bits 0).")
    static void promise27NIs40AtMost() {
        for (int bits : new int[] {0, 8, 16, 64}) {
            due("sheet(0, " + bits + ", 40)", new AvenueNods().sheet(0, bits, 40), bits == 0 ? 0 : 40);
            for (int n : new int[] {41, 65536, MAX}) {
                refused("sheet(0, " + bits + ", " + n + ")", x -> x.sheet(0, bits, n), BEYOND);
                refused("sheet(3, " + bits + ", " + n + ")", x -> x.sheet(3, bits, n), BEYOND);
            }
        }
    }

    @Says("BEYOND: no such sheet, other bits. SIZE")
    static void promise27BeyondIsAskedAheadOfSize() {
        refused("sheet(4, 8, -1)", x -> x.sheet(4, 8, -1), BEYOND);
        refused("sheet(-1, 0, -1)", x -> x.sheet(-1, 0, -1), BEYOND);
        refused("sheet(0, 9, -1)", x -> x.sheet(0, 9, -1), BEYOND);
        refused("sheet(4, 9, 41), counted once", x -> x.sheet(4, 9, 41), BEYOND);
    }

    @Says("A sheet has n numbers, all 0")
    static void promise27ASheetMadeAnewIsAll0() {
        for (int bits : new int[] {8, 16, 64}) {
            AvenueNods x = withSheet(2, 64, 40);
            due("sheet(2, " + bits + ", 40)", x.sheet(2, bits, 40), 40);
            holds("of " + bits, x, 2, new long[40]);
        }
        AvenueNods x = withSheet(1, 16, 40);
        x.sheet(1, 0, 0);
        x.sheet(1, 16, 40);
        holds("MISSING in between", x, 1, new long[40]);
        AvenueNods y = withSheet(1, 16, 3);
        y.sheet(1, 16, 1);
        holds("shorter", y, 1, 0);
        y.sheet(1, 16, 3);
        holds("longer again", y, 1, 0, 0, 0);
    }

    @Says("bits 0: it is MISSING: n (0 if it is MISSING)")
    static void promise27NoNumbersIsNotMissing() {
        AvenueNods x = new AvenueNods();
        due("sheet(0, 8, 0)", x.sheet(0, 8, 0), 0);
        due("it is not MISSING", x.lays(0), 0);
        due("sheet(0, 0, 0)", x.sheet(0, 0, 0), 0);
        due("it is MISSING", x.lays(0), MISSING);
        due("sheet(0, 0, 40), MISSING already", x.sheet(0, 0, 40), 0);
        due("it is MISSING", x.lays(0), MISSING);
    }

    // ---- promise 28

    @Says("BEYOND: no such sheet. MISSING. BEYOND: no such number.")
    static void promise28SheetsAre0To3() {
        changes(Edges::some, "write(0, 0, 9)", x -> x.write(0, 0, 9), 1, "write(0, 0)");
        changes(Edges::most, "write(3, 39, 9)", x -> x.write(3, 39, 9), 999, "write(3, 39)");
        for (int s : outside(0, 3)) {
            refused("write(" + s + ", 0, 0)", x -> x.write(s, 0, 0), BEYOND);
            refused("write(" + s + ", -1, 0)", x -> x.write(s, -1, 0), BEYOND);
        }
    }

    @Says("BEYOND: no such sheet. MISSING.")
    static void promise28MissingIsAskedAheadOfTheNumber() {
        for (int i : new int[] {0, 39, -1, 40, MIN, MAX}) {
            refusedIn(AvenueNods::new, "write(0, " + i + ", 5)", x -> x.write(0, i, 5), MISSING);
            refusedIn(Edges::some, "write(3, " + i + ", 5)", x -> x.write(3, i, 5), MISSING);
        }
    }

    @Says("MISSING. BEYOND: no such number.")
    static void promise28NumbersAre0ToTheLast() {
        changes(Edges::some, "write(1, 3, 9)", x -> x.write(1, 3, 9), 0, "write(1, 3)");
        for (int i : outside(0, 3)) {
            refusedIn(Edges::some, "write(1, " + i + ", 9)", x -> x.write(1, i, 9), BEYOND);
        }
        for (int i : outside(0, 39)) {
            refusedIn(Edges::most, "write(0, " + i + ", 9)", x -> x.write(0, i, 9), BEYOND);
        }
        refusedIn(() -> withSheet(0, 8, 0), "write(0, 0, 9) of none", x -> x.write(0, 0, 9), BEYOND);
        refusedIn(() -> withSheet(0, 8, 0), "write(0, -1, 9) of none", x -> x.write(0, -1, 9), BEYOND);
    }

    private static void kept(int bits, long put, long is) {
        AvenueNods x = new AvenueNods();
        x.sheet(0, bits, 3);
        due("it was", x.write(0, 1, put), 0);
        due(put + " in " + bits + " bits", x.write(0, 1, 0), is);
        due("the one ahead", x.write(0, 0, 0), 0);
        due("the one behind", x.write(0, 2, 0), 0);
        due("no finding", x.status(-1), 0);
    }

    @Says("Number i of a sheet becomes v (its lowest bits): what it was.")
    static void promise28LowestBitsOf8() {
        kept(8, 127, 127);
        kept(8, 128, -128);
        kept(8, -128, -128);
        kept(8, -129, 127);
        kept(8, 255, -1);
        kept(8, 256, 0);
        kept(8, Long.MAX_VALUE, -1);
        kept(8, Long.MIN_VALUE, 0);
    }

    @Says("Number i of a sheet becomes v (its lowest bits): what it was.")
    static void promise28LowestBitsOf16() {
        kept(16, 32767, 32767);
        kept(16, 32768, -32768);
        kept(16, -32768, -32768);
        kept(16, -32769, 32767);
        kept(16, 65535, -1);
        kept(16, 65536, 0);
        kept(16, Long.MAX_VALUE, -1);
        kept(16, Long.MIN_VALUE, 0);
    }

    @Says("(in longs, too)")
    static void promise28AllOf64BitsAlsoThoseOfAFinding() {
        kept(64, Long.MAX_VALUE, Long.MAX_VALUE);
        kept(64, Long.MIN_VALUE, Long.MIN_VALUE);
        kept(64, 1L << 32, 1L << 32);
        kept(64, BEYOND, BEYOND);
        kept(64, SIZE, SIZE);
        kept(64, -1, -1);
    }

    // ---- promise 29

    @Says("BEYOND: no such sheet (either).")
    static void promise29SheetsAre0To3() {
        changes(Edges::most, "copy(0, 0, 3, 0, 40), as it is", x -> x.copy(0, 0, 3, 0, 40), 40);
        changes(Edges::most, "copy(3, 0, 0, 0, 40), as it is", x -> x.copy(3, 0, 0, 0, 40), 40);
        for (int s : outside(0, 3)) {
            refused("copy(" + s + ", 0, 0, 0, 1)", x -> x.copy(s, 0, 0, 0, 1), BEYOND);
            refused("copy(0, 0, " + s + ", 0, 1)", x -> x.copy(0, 0, s, 0, 1), BEYOND);
            refused("copy(3, 0, " + s + ", 0, 1)", x -> x.copy(3, 0, s, 0, 1), BEYOND);
            refused("copy(" + s + ", -1, " + s + ", -1, -1), counted once", x -> x.copy(s, -1, s, -1, -1), BEYOND);
        }
    }

    @Says("MISSING: one is.")
    static void promise29MissingIsAskedAheadOfKind() {
        refusedIn(AvenueNods::new, "copy(0, 0, 0, 0, 0)", x -> x.copy(0, 0, 0, 0, 0), MISSING);
        refusedIn(AvenueNods::new, "copy(0, -1, 3, -1, -1)", x -> x.copy(0, -1, 3, -1, -1), MISSING);
        refusedIn(Edges::some, "copy(3, 0, 0, 0, 1)", x -> x.copy(3, 0, 0, 0, 1), MISSING);
        refusedIn(Edges::some, "copy(0, 0, 3, 0, 1)", x -> x.copy(0, 0, 3, 0, 1), MISSING);
        refusedIn(Edges::some, "copy(0, 9, 3, 9, 99)", x -> x.copy(0, 9, 3, 9, 99), MISSING);
        refusedIn(Edges::some, "copy(3, 0, 3, 0, 0)", x -> x.copy(3, 0, 3, 0, 0), MISSING);
    }

    @Says("KIND: they are not of as many bits.")
    static void promise29KindIsAskedAheadOfHowMany() {
        for (int from = 0; from < 3; from++) {
            int s = from;
            int t = (from + 1) % 3;
            refusedIn(Edges::some, "copy(" + s + ", 0, " + t + ", 0, 1)", x -> x.copy(s, 0, t, 0, 1), KIND);
            refusedIn(Edges::some, "copy(" + t + ", 0, " + s + ", 0, 0)", x -> x.copy(t, 0, s, 0, 0), KIND);
            refusedIn(Edges::some, "copy(" + s + ", -1, " + t + ", 0, 0)", x -> x.copy(s, -1, t, 0, 0), KIND);
            refusedIn(Edges::some, "copy(" + s + ", 0, " + t + ", 0, 99)", x -> x.copy(s, 0, t, 0, 99), KIND);
        }
    }

    /** Sheet 0 has 1 2 3 4, sheet 1 has 5 6. */
    private static AvenueNods fourAndTwo() {
        AvenueNods x = withSheet(0, 16, 4);
        x.sheet(1, 16, 2);
        x.write(1, 0, 5);
        x.write(1, 1, 6);
        return x;
    }

    private static void copied(int s, int from, int t, int to, int n, long[] first, long[] second) {
        AvenueNods x = fourAndTwo();
        String call = "copy(" + s + ", " + from + ", " + t + ", " + to + ", " + n + ")";
        due(call, x.copy(s, from, t, to, n), n);
        holds(call + ": sheet 0", x, 0, first);
        holds(call + ": sheet 1", x, 1, second);
    }

    private static long[] row(long... numbers) {
        return numbers;
    }

    @Says("n numbers of a sheet from one on come to another one from one on (as they all were): n.")
    static void promise29FromNoneToAll() {
        copied(0, 0, 1, 0, 0, row(1, 2, 3, 4), row(5, 6));
        copied(0, 0, 1, 0, 2, row(1, 2, 3, 4), row(1, 2));
        copied(0, 2, 1, 0, 2, row(1, 2, 3, 4), row(3, 4));
        copied(0, 3, 1, 1, 1, row(1, 2, 3, 4), row(5, 4));
        copied(1, 0, 0, 2, 2, row(1, 2, 5, 6), row(5, 6));
        copied(1, 1, 0, 0, 1, row(6, 2, 3, 4), row(5, 6));
        copied(0, 4, 1, 2, 0, row(1, 2, 3, 4), row(5, 6));
        copied(1, 0, 0, 4, 0, row(1, 2, 3, 4), row(5, 6));
    }

    @Says("(as they all were)")
    static void promise29WithinOneSheetAsTheyAllWere() {
        copied(0, 0, 0, 1, 3, row(1, 1, 2, 3), row(5, 6));
        copied(0, 1, 0, 0, 3, row(2, 3, 4, 4), row(5, 6));
        copied(0, 0, 0, 2, 2, row(1, 2, 1, 2), row(5, 6));
        copied(0, 0, 0, 0, 4, row(1, 2, 3, 4), row(5, 6));
    }

    @Says("BEYOND: one has not so many, or from, to or n is below 0.")
    static void promise29BeyondWhatTheyHave() {
        int[][] calls = {{0, 0, 1, 0, 3}, {0, 3, 1, 0, 2}, {0, 4, 1, 0, 1}, {0, 0, 1, 2, 1}, {0, 0, 1, 1, 2},
            {1, 0, 0, 3, 2}, {1, 2, 0, 0, 1}, {1, 0, 0, 4, 1}, {1, 0, 0, 0, 3}, {0, 0, 0, 0, 5}, {0, 1, 0, 0, 4},
            {0, 0, 0, 1, 4}, {0, -1, 1, 0, 1}, {0, 0, 1, -1, 1}, {0, 0, 1, 0, -1}, {0, -1, 1, 0, 0}, {0, 0, 1, -1, 0},
            {0, 1, 1, 1, -1}, {0, MAX, 1, 0, 1}, {0, 0, 1, MAX, 1}, {0, 0, 1, 0, MAX}, {0, MAX, 1, MAX, MAX},
            {0, 2, 1, 0, MAX}, {0, MAX, 1, 0, 2}, {0, 0, 1, MAX, 2}, {0, MIN, 1, 0, 1}, {0, 0, 1, MIN, 1},
            {0, 0, 1, 0, MIN}, {0, MIN, 1, MIN, MIN}, {0, 1, 1, 1, MIN}, {0, 5, 1, 0, 0}, {0, 0, 1, 3, 0},
            {0, MAX, 1, 0, 0}, {0, 0, 1, MAX, 0}, {0, -1, 0, -1, 1}, {0, 5, 0, 5, -1}, {0, 65536, 1, 0, 1}};
        for (int[] c : calls) {
            String call = "copy(" + c[0] + ", " + c[1] + ", " + c[2] + ", " + c[3] + ", " + c[4] + ")";
            refusedIn(() -> fourAndTwo(), call, x -> x.copy(c[0], c[1], c[2], c[3], c[4]), BEYOND);
        }
    }

    // ---- promise 30

    @Says("how many came. BEYOND: no such sheet. MISSING.")
    static void promise30SheetsAre0To3() {
        changes(Edges::some, "lays(0)", x -> x.lays(0), 3, "of(0, 1)", "of(1, 1)", "of(2, 1)");
        changes(Edges::most, "lays(3), as it is", x -> x.lays(3), 12);
        for (int s : outside(0, 3)) {
            refused("lays(" + s + ")", x -> x.lays(s), BEYOND);
        }
        refusedIn(AvenueNods::new, "lays(0)", x -> x.lays(0), MISSING);
        refusedIn(Edges::some, "lays(3)", x -> x.lays(3), MISSING);
    }

    private static AvenueNods withNumbers(int bits, long... numbers) {
        AvenueNods x = new AvenueNods();
        x.sheet(0, bits, numbers.length);
        for (int i = 0; i < numbers.length; i++) {
            x.write(0, i, numbers[i]);
        }
        return x;
    }

    @Says("(those that aren't 0 to 999, or stand for none, are left out)")
    static void promise30AgesAre0To999() {
        changes(() -> withNumbers(64, 0, 999, -1, 1000), "lays(0)", x -> x.lays(0), 2, "of(0, 1)", "of(1, 1)");
        changes(() -> withNumbers(64, 1L << 32, 5 - (1L << 32), Long.MAX_VALUE, Long.MIN_VALUE), "lays(0) of far ones",
            x -> x.lays(0), 0);
        changes(() -> withNumbers(64, 1000, 7, -1, 8), "lays(0), each for its own", x -> x.lays(0), 2, "of(1, 1)",
            "of(3, 1)");
        changes(() -> withNumbers(16, 999, 1000, 65535, 65536), "lays(0) of 16 bits", x -> x.lays(0), 2, "of(0, 1)",
            "of(3, 1)");
        changes(() -> withNumbers(8, 127, 128, 255, 256), "lays(0) of 8 bits", x -> x.lays(0), 2, "of(0, 1)", "of(3, 1)");
        AvenueNods x = withNumbers(64, 0, 999, -1, 1000);
        x.lays(0);
        due("AGE of 0", x.of(0, 1), 0);
        due("AGE of 1", x.of(1, 1), 999);
    }

    @Says("Numbers of a sheet become AGES of TREES 0, 1, ..")
    static void promise30FromNoneTo12() {
        int[] sizes = {0, 1, 11, 12, 13, 40};
        for (int size : sizes) {
            AvenueNods x = withSheet(0, 16, size);
            due("lays(0) of " + size, x.lays(0), Math.min(12, size));
            for (int tree = 0; tree < 12; tree++) {
                due("AGE of " + tree + " by " + size, x.of(tree, 1), tree < size ? tree + 1 : 40);
            }
            due("the sheet stays", size == 0 ? 0 : x.write(0, size - 1, 0), size);
        }
    }

    // ---- promise 31

    @Says("how many. BEYOND: no such sheet. MISSING. BEYOND: tree.")
    static void promise31SheetsAndTrees() {
        for (int s : outside(0, 3)) {
            refused("book(" + s + ", 0)", x -> x.book(s, 0), BEYOND);
            refused("book(" + s + ", 12), counted once", x -> x.book(s, 12), BEYOND);
        }
        for (int tree : outside(0, 11)) {
            refusedIn(AvenueNods::new, "book(0, " + tree + "), MISSING first", x -> x.book(0, tree), MISSING);
            refusedIn(Edges::some, "book(3, " + tree + "), MISSING first", x -> x.book(3, tree), MISSING);
            refusedIn(Edges::some, "book(0, " + tree + ")", x -> x.book(0, tree), BEYOND);
            refusedIn(Edges::most, "book(3, " + tree + ")", x -> x.book(3, tree), BEYOND);
            refusedIn(() -> withSheet(0, 8, 0), "book(0, " + tree + ") of none", x -> x.book(0, tree), BEYOND);
        }
        refusedIn(Edges::some, "book(3, 0)", x -> x.book(3, 0), MISSING);
    }

    @Says("ON 0, 1, 2, .. YEARS comes to a sheet, as many as it has numbers: how many.")
    static void promise31FromNoneTo40() {
        changes(() -> withSheet(0, 8, 0), "book(0, 0) of none", x -> x.book(0, 0), 0);
        changes(Edges::some, "book(2, 11)", x -> x.book(2, 11), 3, "write(2, 0)", "write(2, 1)", "write(2, 2)");
        AvenueNods x = new AvenueNods();
        x.tell(0, 0);
        x.sheet(3, 64, 40);
        due("book(3, 11)", x.book(3, 11), 40);
        long[] known = new long[40];
        for (int i = 17; i < 40; i++) {
            known[i] = 1;
        }
        holds("known ON 17", x, 3, known);
        due("YEAR", x.now(0), 0);
        due("nothing changes", x.of(11, 5), 0);
    }

    /** TREE 8, a stump told in YEAR 0, LEANS in 999: the 40th number, ON 39, tells it from YEAR 961 on. */
    @Says("ON 0, 1, 2, .. YEARS")
    static void promise31TheLastNumberIsOn39() {
        AvenueNods x = cut();
        x.turn(8, STUMP);
        x.tell(8, 0);
        goTo(x, 960);
        x.sheet(0, 8, 40);
        x.book(0, 10);
        due("in 960", x.write(0, 39, 0), 0);
        x.years(1);
        x.book(0, 10);
        due("in 961", x.write(0, 39, 0), 1);
        due("in 961, ON 38", x.write(0, 38, 0), 0);
    }

    @Says("messages that a TREE KNOWS (as a set) ON 0, 1, 2")
    static void promise31ASetOfAllInSoManyBits() {
        for (int bits : new int[] {8, 16, 64}) {
            AvenueNods x = most();
            x.sheet(0, bits, 2);
            due("book(0, 6)", x.book(0, 6), 2);
            holds("in " + bits + " bits", x, 0, bits == 8 ? row(-1, -1) : row(255, 255));
        }
    }

    // ---- promise 32

    @Says("BEYOND: no such sheet. MISSING. BEYOND: tree, other (also one and the same).")
    static void promise32SheetsAndTrees() {
        for (int s : outside(0, 3)) {
            refused("read(" + s + ", 0, 1)", x -> x.read(s, 0, 1), BEYOND);
            refused("read(" + s + ", 0, 0), counted once", x -> x.read(s, 0, 0), BEYOND);
        }
        for (int tree : outside(0, 11)) {
            refusedIn(Edges::some, "read(3, " + tree + ", 0), MISSING first", x -> x.read(3, tree, 0), MISSING);
            refusedIn(Edges::some, "read(3, 0, " + tree + "), MISSING first", x -> x.read(3, 0, tree), MISSING);
            refusedIn(Edges::some, "read(0, " + tree + ", 0)", x -> x.read(0, tree, 0), BEYOND);
            refusedIn(Edges::most, "read(3, 11, " + tree + ")", x -> x.read(3, 11, tree), BEYOND);
            refusedIn(() -> withSheet(0, 8, 0), "read(0, " + tree + ", 0)", x -> x.read(0, tree, 0), BEYOND);
            refusedIn(Edges::some, "read(0, " + tree + ", " + tree + ")", x -> x.read(0, tree, tree), BEYOND);
        }
    }

    @Says("tree, other (also one and the same)")
    static void promise32OneAndTheSame() {
        refusedIn(Edges::some, "read(0, 0, 0)", x -> x.read(0, 0, 0), BEYOND);
        refusedIn(Edges::most, "read(3, 11, 11)", x -> x.read(3, 11, 11), BEYOND);
        refusedIn(() -> withSheet(0, 8, 0), "read(0, 5, 5) of none", x -> x.read(0, 5, 5), BEYOND);
        refusedIn(AvenueNods::new, "read(0, 5, 5), MISSING first", x -> x.read(0, 5, 5), MISSING);
    }

    @Says("how many pairs of a KIND of it and a KIND of another one make it just so")
    static void promise32FromNoneTo36() {
        asked(() -> withSheet(0, 8, 0), "read(0, 0, 11) of none", x -> x.read(0, 0, 11), 36);
        asked(() -> withSheet(3, 64, 0), "read(3, 11, 0) of none", x -> x.read(3, 11, 0), 36);
        asked(Edges::some, "read(0, 0, 11)", x -> x.read(0, 0, 11), 0);
        AvenueNods x = new AvenueNods();
        x.sheet(0, 64, 40);
        due("nothing known, and all 0", x.read(0, 0, 11), 36);
        x.write(0, 39, 1);
        due("but for the last", x.read(0, 0, 11), 0);
        x.write(0, 39, 0);
        x.write(0, 0, 1);
        due("but for the first", x.read(0, 0, 11), 0);
    }

    @Says("numbers of a sheet are what a TREE KNOWS (as a set) ON 0, 1, 2, .. YEARS")
    static void promise32OneNumberIsWhatItKnowsNow() {
        State now = () -> {
            AvenueNods x = some();
            x.sheet(3, 64, 1);
            x.write(3, 0, 128);
            return x;
        };
        asked(now, "read(3, 11, 10), as any KIND", x -> x.read(3, 11, 10), 36);
        asked(now, "read(3, 0, 10)", x -> x.read(3, 0, 10), 0);
        State next = () -> {
            AvenueNods x = some();
            x.tell(11, 1);
            x.years(1);
            x.sheet(3, 64, 2);
            x.write(3, 0, 128);
            x.write(3, 1, 130);
            return x;
        };
        asked(next, "read(3, 10, 11), a nod in YEAR 7: from lime, sapling, graft; not to a stump", x -> x.read(3, 10, 11),
            15);
    }

    @Says("make it just so")
    static void promise32NumbersThatAreNoSet() {
        for (long number : new long[] {128 + 256, 128 + (1L << 32), -128, 128 - 256, Long.MIN_VALUE + 128}) {
            State state = () -> {
                AvenueNods x = some();
                x.sheet(3, 64, 1);
                x.write(3, 0, number);
                return x;
            };
            asked(state, "read(3, 11, 10) of " + number, x -> x.read(3, 11, 10), 0);
        }
    }
}
