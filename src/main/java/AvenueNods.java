import java.util.Arrays;

/**
 * An avenue of pairs of trees, up which messages go by nods and leans, year by year. What each call answers is told in
 * the document (../shared/DOC.md); the words in capitals in the comments here are its terms.
 */
public final class AvenueNods {
    private static final int TREES = 12;
    private static final int PLACES = 6;
    private static final int SIDES = 2;
    private static final int MESSAGES = 8;
    private static final int ALL_MESSAGES = (1 << MESSAGES) - 1;
    private static final int OLDEST = 999;
    private static final int LAST_YEAR = 9999;
    private static final int MOST_YEARS = 100;
    private static final int FAR = 200;
    private static final int MOST_DELAY = 60;
    private static final int TAPE = 120;
    private static final int SHEETS = 4;
    private static final int LONGEST_SHEET = 40;

    private static final int KINDS = 6;
    private static final int LIME = 0;
    private static final int ELM = 1;
    private static final int SAPLING = 2;
    private static final int STUMP = 3;
    private static final int OAK = 4;
    private static final int GRAFT = 5;

    private static final int FINDINGS = 7;
    private static final int BEYOND = 0;
    private static final int FULL = 1;
    private static final int KIND = 2;
    private static final int NONE = 3;
    private static final int STATE = 4;
    private static final int MISSING = 5;
    private static final int SIZE = 6;
    private static final int FIRST_FINDING = -1000000001;

    /** In how many YEARS that comes which doesn't come within FAR: later than all. */
    private static final int TOO_LATE = FAR + 1;

    private final Avenue real = new Avenue();
    private final Avenue kept = new Avenue();
    /** What is only supposed: ON, and what is best, go on here. Made once, since each call would need one. */
    private final Avenue trial = new Avenue();
    private final Avenue branch = new Avenue();
    private final int[] learntIn = new int[TREES];
    private final Text text = new Text();
    private final Sheet[] sheets = new Sheet[SHEETS];
    private final int[] found = new int[FINDINGS];
    private boolean keeps = false;

    public AvenueNods() {
        for (int s = 0; s < SHEETS; s++) {
            sheets[s] = new Sheet();
        }
    }

    // ---- trees

    public int of(int tree, int what) {
        if (!isTree(tree)) {
            return finding(BEYOND);
        }
        switch (what) {
            case 0:
                return real.kinds[tree];
            case 1:
                return real.ages[tree];
            case 2:
                return real.leansOf(tree);
            case 3:
                return real.nodsOf(tree);
            case 4:
                return real.hears(tree, false) ? 1 : 0;
            case 5:
                return real.known[tree];
            default:
                return finding(BEYOND);
        }
    }

    public int since(int tree, int message) {
        if (!isTree(tree) || !isMessage(message)) {
            return finding(BEYOND);
        }
        if (!real.knows(tree, message)) {
            return finding(NONE);
        }
        return real.learntWhen(tree, message);
    }

    public int plant(int tree, int kind) {
        if (!isTree(tree) || !isKind(kind)) {
            return finding(BEYOND);
        }
        int was = real.kinds[tree];
        real.setAnew(tree, kind, 0);
        return was;
    }

    public int turn(int tree, int kind) {
        if (!isTree(tree) || !isKind(kind)) {
            return finding(BEYOND);
        }
        int was = real.kinds[tree];
        real.kinds[tree] = kind;
        return was;
    }

    public int age(int tree, int v) {
        if (!isTree(tree) || !isAge(v)) {
            return finding(BEYOND);
        }
        int was = real.ages[tree];
        real.ages[tree] = v;
        return was;
    }

    public int as(int tree, int kind) {
        if (!isTree(tree) || !isKind(kind)) {
            return finding(BEYOND);
        }
        if (!isUnder(real.kinds[tree], kind)) {
            return finding(KIND);
        }
        return real.ages[tree];
    }

    public int meet(int place, int v) {
        if (!isPlace(place) || v < 0 || v > 1) {
            return finding(BEYOND);
        }
        int was = real.isIntroduced(place) ? 1 : 0;
        real.setIntroduced(place, v == 1);
        return was;
    }

    // ---- messages

    public int tell(int tree, int message) {
        if (!isTree(tree) || !isMessage(message)) {
            return finding(BEYOND);
        }
        if (real.knows(tree, message)) {
            return finding(STATE);
        }
        real.learn(tree, message);
        return real.knowers(message);
    }

    public int forget(int message) {
        if (!isMessage(message)) {
            return finding(BEYOND);
        }
        int were = real.knowers(message);
        for (int tree = 0; tree < TREES; tree++) {
            real.lose(tree, message);
        }
        return were;
    }

    public int years(int n) {
        if (n < 1 || n > MOST_YEARS) {
            return finding(BEYOND);
        }
        if (real.year + n > LAST_YEAR) {
            return finding(STATE);
        }
        real.passYears(n);
        return real.knownAtTerrace();
    }

    public int gale() {
        return real.blow();
    }

    public int now(int what) {
        switch (what) {
            case 0:
                return real.year;
            case 1:
                return real.introduced;
            case 2:
                return real.knownAtTerrace();
            case 3:
                return real.knownByAny();
            case 4:
                return real.knownInAll();
            case 5:
                return real.agesTogether();
            default:
                return finding(BEYOND);
        }
    }

    public int on(int tree, int n) {
        if (!isTree(tree) || n < 0 || n > FAR) {
            return finding(BEYOND);
        }
        suppose();
        trial.passYears(n);
        return trial.known[tree];
    }

    public int when(int tree, int message) {
        if (!isTree(tree) || !isMessage(message)) {
            return finding(BEYOND);
        }
        findLearntIn(message);
        return learntIn[tree] == TOO_LATE ? finding(NONE) : learntIn[tree];
    }

    public int home(int message) {
        if (!isMessage(message)) {
            return finding(BEYOND);
        }
        int soonest = homeAsItIs(message);
        return soonest == TOO_LATE ? finding(NONE) : soonest;
    }

    public int last(int message) {
        if (!isMessage(message)) {
            return finding(BEYOND);
        }
        findLearntIn(message);
        int latest = 0;
        for (int tree = 1; tree < TREES; tree++) {
            if (learntIn[tree] > learntIn[latest]) {
                latest = tree;
            }
        }
        return latest;
    }

    // ---- what is best

    public int introduce(int message) {
        if (!isMessage(message)) {
            return finding(BEYOND);
        }
        int soonest = homeAsItIs(message);
        int best = -1;
        for (int place = 0; place < PLACES; place++) {
            if (real.isIntroduced(place)) {
                continue;
            }
            suppose();
            trial.setIntroduced(place, true);
            int years = trial.goHome(message);
            if (years < soonest) {
                soonest = years;
                best = place;
            }
        }
        return best < 0 ? finding(NONE) : best;
    }

    public int lime(int message) {
        if (!isMessage(message)) {
            return finding(BEYOND);
        }
        int soonest = homeAsItIs(message);
        int best = -1;
        for (int tree = 0; tree < TREES; tree++) {
            if (real.kinds[tree] == LIME) {
                continue;
            }
            int years = homeWithKind(tree, LIME, message);
            if (years < soonest) {
                soonest = years;
                best = tree;
            }
        }
        return best < 0 ? finding(NONE) : best;
    }

    public int kind(int tree, int message) {
        if (!isTree(tree) || !isMessage(message)) {
            return finding(BEYOND);
        }
        int soonest = TOO_LATE;
        int best = -1;
        for (int kind = 0; kind < KINDS; kind++) {
            int years = homeWithKind(tree, kind, message);
            if (years < soonest) {
                soonest = years;
                best = kind;
            }
        }
        return best < 0 ? finding(NONE) : best;
    }

    public int delay(int n) {
        if (n < 0 || n > MOST_DELAY) {
            return finding(BEYOND);
        }
        int most = -1;
        int best = 0;
        suppose();
        for (int years = 0; years <= n; years++) {
            branch.become(trial);
            branch.blow();
            branch.passYears(n - years);
            int known = branch.knownInAll();
            if (known > most) {
                most = known;
                best = years;
            }
            trial.passYears(1);
        }
        return best;
    }

    public int side(int message) {
        if (!isMessage(message)) {
            return finding(BEYOND);
        }
        if (real.knowers(message) > 0) {
            return finding(STATE);
        }
        int soonest = TOO_LATE;
        int best = -1;
        for (int side = 0; side < SIDES; side++) {
            suppose();
            trial.learn(treeAt(0, side), message);
            int years = trial.goHome(message);
            if (years < soonest) {
                soonest = years;
                best = side;
            }
        }
        return best < 0 ? finding(NONE) : best;
    }

    public int needed(int message) {
        if (!isMessage(message)) {
            return finding(BEYOND);
        }
        int latest = -1;
        int best = 0;
        for (int tree = 0; tree < TREES; tree++) {
            suppose();
            trial.setAnew(tree, STUMP, 0);
            int years = trial.goHome(message);
            if (years > latest) {
                latest = years;
                best = tree;
            }
        }
        return best;
    }

    // ---- the text

    public int feed(int bytes, int n) {
        if (n < 1 || n > 4) {
            return finding(BEYOND);
        }
        if (text.length > TAPE - n) {
            return finding(FULL);
        }
        for (int i = n - 1; i >= 0; i--) {
            text.add((byte) (bytes >> (8 * i)));
        }
        return text.length;
    }

    public int wipe() {
        int had = text.length;
        text.length = 0;
        return had;
    }

    public int avenue() {
        suppose();
        int answer = text.layOut(trial);
        if (answer >= 0) {
            real.become(trial);
        }
        text.length = 0;
        return answer;
    }

    // ---- sheets

    public int sheet(int s, int bits, int n) {
        if (!isSheet(s) || !isWidth(bits)) {
            return finding(BEYOND);
        }
        if (n < 0) {
            return finding(SIZE);
        }
        if (n > LONGEST_SHEET) {
            return finding(BEYOND);
        }
        sheets[s].layNew(bits, n);
        return sheets[s].size;
    }

    public long write(int s, int i, long v) {
        if (!isSheet(s)) {
            return finding(BEYOND);
        }
        if (sheets[s].isMissing()) {
            return finding(MISSING);
        }
        if (i < 0 || i >= sheets[s].size) {
            return finding(BEYOND);
        }
        long was = sheets[s].numbers[i];
        sheets[s].put(i, v);
        return was;
    }

    public int copy(int s, int from, int t, int to, int n) {
        if (!isSheet(s) || !isSheet(t)) {
            return finding(BEYOND);
        }
        Sheet source = sheets[s];
        Sheet target = sheets[t];
        if (source.isMissing() || target.isMissing()) {
            return finding(MISSING);
        }
        if (source.bits != target.bits) {
            return finding(KIND);
        }
        if (!source.has(from, n) || !target.has(to, n)) {
            return finding(BEYOND);
        }
        System.arraycopy(source.numbers, from, target.numbers, to, n);
        return n;
    }

    public int lays(int s) {
        if (!isSheet(s)) {
            return finding(BEYOND);
        }
        if (sheets[s].isMissing()) {
            return finding(MISSING);
        }
        int came = 0;
        for (int tree = 0; tree < TREES && tree < sheets[s].size; tree++) {
            long number = sheets[s].numbers[tree];
            if (number >= 0 && number <= OLDEST) {
                real.ages[tree] = (int) number;
                came++;
            }
        }
        return came;
    }

    public int book(int s, int tree) {
        if (!isSheet(s)) {
            return finding(BEYOND);
        }
        if (sheets[s].isMissing()) {
            return finding(MISSING);
        }
        if (!isTree(tree)) {
            return finding(BEYOND);
        }
        suppose();
        for (int i = 0; i < sheets[s].size; i++) {
            sheets[s].put(i, trial.known[tree]);
            trial.passYears(1);
        }
        return sheets[s].size;
    }

    public int read(int s, int tree, int other) {
        if (!isSheet(s)) {
            return finding(BEYOND);
        }
        if (sheets[s].isMissing()) {
            return finding(MISSING);
        }
        if (!isTree(tree) || !isTree(other) || tree == other) {
            return finding(BEYOND);
        }
        int pairs = 0;
        for (int kind = 0; kind < KINDS; kind++) {
            for (int otherKind = 0; otherKind < KINDS; otherKind++) {
                suppose();
                trial.kinds[tree] = kind;
                trial.kinds[other] = otherKind;
                if (goesAsWritten(sheets[s], tree)) {
                    pairs++;
                }
            }
        }
        return pairs;
    }

    // ---- images

    public int image() {
        kept.become(real);
        keeps = true;
        return 1;
    }

    public int undo() {
        if (!keeps) {
            return finding(NONE);
        }
        real.become(kept);
        return real.year;
    }

    public int tear() {
        int was = keeps ? 1 : 0;
        keeps = false;
        return was;
    }

    public int count(int what) {
        switch (what) {
            case 0:
                return real.noLimes();
            case 1:
                return text.length;
            case 2:
                return Integer.bitCount(real.introduced);
            case 3:
                return real.treesThatKnow();
            default:
                return finding(BEYOND);
        }
    }

    public int status(int which) {
        if (which < -1 || which >= FINDINGS) {
            return finding(BEYOND);
        }
        if (which >= 0) {
            return found[which];
        }
        int all = 0;
        for (int i = 0; i < FINDINGS; i++) {
            all += found[i];
        }
        return all;
    }

    // ---- what the calls share

    private int finding(int which) {
        found[which]++;
        return FIRST_FINDING - which;
    }

    private static boolean isTree(int tree) {
        return tree >= 0 && tree < TREES;
    }

    private static boolean isPlace(int place) {
        return place >= 0 && place < PLACES;
    }

    private static boolean isMessage(int message) {
        return message >= 0 && message < MESSAGES;
    }

    private static boolean isKind(int kind) {
        return kind >= 0 && kind < KINDS;
    }

    private static boolean isAge(int v) {
        return v >= 0 && v <= OLDEST;
    }

    private static boolean isSheet(int s) {
        return s >= 0 && s < SHEETS;
    }

    private static boolean isWidth(int bits) {
        return bits == 0 || bits == 8 || bits == 16 || bits == 64;
    }

    private static int treeAt(int place, int side) {
        return SIDES * place + side;
    }

    /** Whether a KIND is another one or stands under it. */
    private static boolean isUnder(int kind, int upper) {
        return upper == LIME || kind == upper || (kind == OAK && upper == ELM) || (kind == GRAFT && upper == SAPLING);
    }

    private void suppose() {
        trial.become(real);
    }

    private int homeAsItIs(int message) {
        suppose();
        return trial.goHome(message);
    }

    private int homeWithKind(int tree, int kind, int message) {
        suppose();
        trial.kinds[tree] = kind;
        return trial.goHome(message);
    }

    /** Puts into learntIn, for each TREE, in how many YEARS ON it knows a message first. */
    private void findLearntIn(int message) {
        Arrays.fill(learntIn, TOO_LATE);
        suppose();
        for (int years = 0; years <= FAR; years++) {
            for (int tree = 0; tree < TREES; tree++) {
                if (learntIn[tree] == TOO_LATE && trial.knows(tree, message)) {
                    learntIn[tree] = years;
                }
            }
            trial.passYear(1 << message);
        }
    }

    /** Whether a TREE of trial, as it goes on, knows just what the sheet tells. */
    private boolean goesAsWritten(Sheet sheet, int tree) {
        for (int i = 0; i < sheet.size; i++) {
            if (sheet.numbers[i] != trial.known[tree]) {
                return false;
            }
            trial.passYears(1);
        }
        return true;
    }

    /** All that section 1 of the document tells but THE TAPE. The callers have looked at trees and messages. */
    private static final class Avenue {
        int year = 0;
        /** The PAIRS that are INTRODUCED, as a set. */
        int introduced = (1 << PLACES) - 1;
        final int[] kinds = new int[TREES];
        final int[] ages = new int[TREES];
        /** The messages that each TREE knows, as a set. */
        final int[] known = new int[TREES];
        /** Since when each TREE knows each message, MESSAGES for a TREE; it tells nothing of those not known. */
        private final int[] learnt = new int[TREES * MESSAGES];

        Avenue() {
            Arrays.fill(ages, 40);
        }

        void become(Avenue other) {
            year = other.year;
            introduced = other.introduced;
            System.arraycopy(other.kinds, 0, kinds, 0, TREES);
            System.arraycopy(other.ages, 0, ages, 0, TREES);
            System.arraycopy(other.known, 0, known, 0, TREES);
            System.arraycopy(other.learnt, 0, learnt, 0, TREES * MESSAGES);
        }

        void setAnew(int tree, int kind, int newAge) {
            kinds[tree] = kind;
            ages[tree] = newAge;
            known[tree] = 0;
        }

        // -- what is known

        int learntWhen(int tree, int message) {
            return learnt[tree * MESSAGES + message];
        }

        boolean knows(int tree, int message) {
            return (known[tree] >> message & 1) == 1;
        }

        void learn(int tree, int message) {
            known[tree] |= 1 << message;
            learnt[tree * MESSAGES + message] = year;
        }

        void lose(int tree, int message) {
            known[tree] &= ~(1 << message);
        }

        int knownAtTerrace() {
            return known[treeAt(PLACES - 1, 0)] | known[treeAt(PLACES - 1, 1)];
        }

        int knownByAny() {
            int set = 0;
            for (int tree = 0; tree < TREES; tree++) {
                set |= known[tree];
            }
            return set;
        }

        int knownInAll() {
            int all = 0;
            for (int tree = 0; tree < TREES; tree++) {
                all += Integer.bitCount(known[tree]);
            }
            return all;
        }

        int knowers(int message) {
            int knowers = 0;
            for (int tree = 0; tree < TREES; tree++) {
                if (knows(tree, message)) {
                    knowers++;
                }
            }
            return knowers;
        }

        int treesThatKnow() {
            int trees = 0;
            for (int tree = 0; tree < TREES; tree++) {
                if (known[tree] != 0) {
                    trees++;
                }
            }
            return trees;
        }

        // -- how the trees are

        boolean isIntroduced(int place) {
            return (introduced >> place & 1) == 1;
        }

        void setIntroduced(int place, boolean to) {
            introduced = to ? introduced | 1 << place : introduced & ~(1 << place);
        }

        int agesTogether() {
            int together = 0;
            for (int tree = 0; tree < TREES; tree++) {
                together += ages[tree];
            }
            return together;
        }

        int noLimes() {
            int trees = 0;
            for (int tree = 0; tree < TREES; tree++) {
                if (kinds[tree] != LIME) {
                    trees++;
                }
            }
            return trees;
        }

        int leansOf(int tree) {
            int asLime = 3;
            int asElm = asLime + 4;
            int asSapling = asLime + Math.max(0, 10 - ages[tree]);
            switch (kinds[tree]) {
                case ELM:
                    return asElm;
                case SAPLING:
                    return asSapling;
                case STUMP:
                    return 999;
                case OAK:
                    return 2 * asElm;
                case GRAFT:
                    return asSapling - 2;
                default:
                    return asLime;
            }
        }

        int nodsOf(int tree) {
            int asLime = 1;
            switch (kinds[tree]) {
                case ELM:
                case OAK:
                    return asLime + 1;
                case SAPLING:
                case GRAFT:
                    return ages[tree] < 20 ? 2 * asLime : asLime;
                case STUMP:
                    return 999;
                default:
                    return asLime;
            }
        }

        boolean hears(int tree, boolean fromAcross) {
            switch (kinds[tree]) {
                case ELM:
                case OAK:
                    return year % 3 != 0;
                case SAPLING:
                    return ages[tree] >= 5;
                case GRAFT:
                    return fromAcross || ages[tree] >= 5;
                case STUMP:
                    return false;
                default:
                    return true;
            }
        }

        // -- how it goes on

        void passYears(int n) {
            for (int i = 0; i < n; i++) {
                passYear(ALL_MESSAGES);
            }
        }

        /** A YEAR for a set of messages: no message bears on another, so a question about one needs no more. */
        void passYear(int messages) {
            for (int tree = 0; tree < TREES; tree++) {
                ages[tree] = Math.min(ages[tree] + 1, OLDEST);
            }
            // What is learnt this YEAR can't be told on in it, as every LEANS and NODS is 1 or more: so the trees may
            // follow one another here, and each goes by what all KNEW as the YEAR began.
            for (int tree = 0; tree < TREES; tree++) {
                listen(tree, messages);
            }
            year++;
        }

        private void listen(int tree, int messages) {
            int below = tree - SIDES;
            int across = tree ^ 1;
            int unheard = messages & ~known[tree];
            int leant = below >= 0 ? unheard & known[below] : 0;
            int nodded = isIntroduced(tree / SIDES) ? unheard & known[across] : 0;
            if (leant != 0 && hears(tree, false)) {
                takeFrom(tree, below, leant, leansOf(below));
            }
            if (nodded != 0 && hears(tree, true)) {
                takeFrom(tree, across, nodded, nodsOf(across));
            }
        }

        /** A TREE gets to KNOW those of the messages that a teller KNOWS for as many years as it waits. */
        private void takeFrom(int tree, int teller, int messages, int waits) {
            for (int message = 0; message < MESSAGES; message++) {
                if ((messages >> message & 1) == 1 && year - learntWhen(teller, message) >= waits) {
                    learn(tree, message);
                }
            }
        }

        /** A GALE: how many got to KNOW something, each message counted. */
        int blow() {
            int before = knownInAll();
            int told = knownByAny();
            for (int tree = 0; tree < TREES; tree++) {
                if (!hears(tree, true)) {
                    continue;
                }
                for (int message = 0; message < MESSAGES; message++) {
                    if ((told >> message & 1) == 1 && !knows(tree, message)) {
                        learn(tree, message);
                    }
                }
            }
            return knownInAll() - before;
        }

        /** Goes on until a message is HOME: in how many YEARS that is, or TOO_LATE. */
        int goHome(int message) {
            for (int years = 0; years <= FAR; years++) {
                if (knows(treeAt(PLACES - 1, 0), message) || knows(treeAt(PLACES - 1, 1), message)) {
                    return years;
                }
                passYear(1 << message);
            }
            return TOO_LATE;
        }
    }

    /** THE TAPE, and how it is taken for THE TEXT of an AVENUE, token by token. */
    private static final class Text {
        private static final int END = 0;
        private static final int WORD = 1;
        private static final int NUMBER = 2;
        private static final int SIGN = 3;
        private static final int NO_TOKEN = 4;
        private static final int MOST = 999;

        int length = 0;
        private final byte[] bytes = new byte[TAPE];
        /** The token that is looked at: its first byte (at the end of the tape: how many bytes there are). */
        private int start = 0;
        private int end = 0;
        private int type = END;
        /** What a NUMBER is; one above MOST is told as MOST + 1, however many digits it has. */
        private int value = 0;

        void add(byte b) {
            if (length < TAPE) {
                bytes[length] = b;
                length++;
            }
        }

        /** The ITEMS come to an avenue: how many; or -1 less the place of the FAULT, with some ITEMS perhaps come. */
        int layOut(Avenue to) {
            end = 0;
            advance();
            for (int items = 1; items <= TAPE; items++) {
                if (!takeItem(to)) {
                    break;
                }
                if (type == END) {
                    return items;
                }
                if (type != SIGN) {
                    break;
                }
                advance();
            }
            return -1 - start;
        }

        private boolean takeItem(Avenue to) {
            for (int kind = 0; kind < KINDS; kind++) {
                if (takeWord(nameOf(kind))) {
                    return takeTree(to, kind);
                }
            }
            if (takeWord("cut")) {
                return takePair(to, false);
            }
            if (takeWord("meet")) {
                return takePair(to, true);
            }
            return takeWord("word") && takeMessage(to);
        }

        private boolean takeTree(Avenue to, int kind) {
            if (!takeWord("at")) {
                return false;
            }
            int place = takeNumber(PLACES - 1);
            if (place < 0) {
                return false;
            }
            int side = takeNumber(SIDES - 1);
            if (side < 0) {
                return false;
            }
            int newAge = 0;
            if (takeWord("age")) {
                newAge = takeNumber(OLDEST);
                if (newAge < 0) {
                    return false;
                }
            }
            to.setAnew(treeAt(place, side), kind, newAge);
            return true;
        }

        private boolean takePair(Avenue to, boolean introduced) {
            int place = takeNumber(PLACES - 1);
            if (place < 0) {
                return false;
            }
            to.setIntroduced(place, introduced);
            return true;
        }

        private boolean takeMessage(Avenue to) {
            int message = takeNumber(MESSAGES - 1);
            if (message < 0) {
                return false;
            }
            int side = takeNumber(SIDES - 1);
            if (side < 0) {
                return false;
            }
            if (!to.knows(treeAt(0, side), message)) {
                to.learn(treeAt(0, side), message);
            }
            return true;
        }

        private static String nameOf(int kind) {
            switch (kind) {
                case ELM:
                    return "elm";
                case SAPLING:
                    return "sapling";
                case STUMP:
                    return "stump";
                case OAK:
                    return "oak";
                case GRAFT:
                    return "graft";
                default:
                    return "lime";
            }
        }

        /** Goes past the token if it is that word; else stays at it. */
        private boolean takeWord(String word) {
            if (type != WORD || end - start != word.length()) {
                return false;
            }
            for (int i = 0; i < word.length(); i++) {
                if (bytes[start + i] != word.charAt(i)) {
                    return false;
                }
            }
            advance();
            return true;
        }

        /** Goes past the token if it is a NUMBER of at most so much: what it is; else stays at it: -1. */
        private int takeNumber(int most) {
            if (type != NUMBER || value > most) {
                return -1;
            }
            int taken = value;
            advance();
            return taken;
        }

        private void advance() {
            start = end;
            while (start < length && bytes[start] == ' ') {
                start++;
            }
            end = start;
            if (start >= length) {
                type = END;
            } else if (isLetter(bytes[start])) {
                type = WORD;
                while (end < length && isLetter(bytes[end])) {
                    end++;
                }
            } else if (isDigit(bytes[start])) {
                type = NUMBER;
                value = 0;
                while (end < length && isDigit(bytes[end])) {
                    value = Math.min(10 * value + bytes[end] - '0', MOST + 1);
                    end++;
                }
            } else {
                type = bytes[start] == ';' ? SIGN : NO_TOKEN;
                end = start + 1;
            }
        }

        private static boolean isLetter(byte b) {
            return b >= 'a' && b <= 'z';
        }

        private static boolean isDigit(byte b) {
            return b >= '0' && b <= '9';
        }
    }

    /** A row of numbers, signed, of so many bits; of 0 bits: MISSING. */
    private static final class Sheet {
        int bits = 0;
        int size = 0;
        final long[] numbers = new long[LONGEST_SHEET];

        void layNew(int newBits, int n) {
            bits = newBits;
            size = newBits == 0 ? 0 : n;
            Arrays.fill(numbers, 0L);
        }

        boolean isMissing() {
            return bits == 0;
        }

        /** Whether it has n numbers from one on. */
        boolean has(int from, int n) {
            return from >= 0 && n >= 0 && n <= size && from <= size - n;
        }

        void put(int i, long v) {
            if (bits == 8) {
                numbers[i] = (byte) v;
            } else if (bits == 16) {
                numbers[i] = (short) v;
            } else {
                numbers[i] = v;
            }
        }
    }
}
