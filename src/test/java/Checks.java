/** What the tests share: it prints each call whose answer is not the one that is due, and ends with 1 if one was. */
final class Checks {
    static final int BEYOND = -1000000001;
    static final int FULL = -1000000002;
    static final int KIND = -1000000003;
    static final int NONE = -1000000004;
    static final int STATE = -1000000005;
    static final int MISSING = -1000000006;
    static final int SIZE = -1000000007;

    private int checks = 0;
    private int wrong = 0;
    /** The test that is under way, told ahead of what is wrong in it. */
    private String about = "";

    void about(String test) {
        about = test + ": ";
    }

    void due(String call, long got, long want) {
        checks++;
        if (got != want) {
            wrong++;
            System.out.println(about + call + " answered " + got + ", due is " + want);
        }
    }

    void that(String what, boolean holds) {
        checks++;
        if (!holds) {
            wrong++;
            System.out.println(about + what + " does not hold");
        }
    }

    /** A call that answers a finding: it is counted once, as that finding, and changes nothing else. */
    void refused(AvenueNods x, String call, java.util.function.LongSupplier act, long want) {
        int which = (int) (BEYOND - want);
        int all = x.status(-1);
        int some = x.status(which);
        String before = stateOf(x);
        due(call, act.getAsLong(), want);
        due(call + " counted by status(" + which + ")", x.status(which), some + 1);
        due(call + " counted by status(-1)", x.status(-1), all + 1);
        that(call + " changes nothing", before.equals(stateOf(x)));
    }

    /** All that can be asked without a finding (what is known: as sets). */
    static String stateOf(AvenueNods x) {
        StringBuilder told = new StringBuilder();
        for (int tree = 0; tree < 12; tree++) {
            for (int what = 0; what < 6; what++) {
                told.append(x.of(tree, what)).append(' ');
            }
        }
        for (int what = 0; what < 6; what++) {
            told.append(x.now(what)).append(' ');
        }
        for (int what = 0; what < 4; what++) {
            told.append(x.count(what)).append(' ');
        }
        return told.toString();
    }

    static int feedAll(AvenueNods x, String text) {
        int has = x.count(1);
        for (int i = 0; i < text.length(); i++) {
            has = x.feed(text.charAt(i), 1);
        }
        return has;
    }

    static void cutAll(AvenueNods x) {
        for (int place = 0; place < 6; place++) {
            x.meet(place, 0);
        }
    }

    void end() {
        System.out.println(checks + " checks, " + wrong + " wrong");
        if (wrong != 0) {
            System.exit(1);
        }
    }
}
