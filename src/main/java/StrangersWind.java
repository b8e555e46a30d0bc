import java.util.Arrays;

/** A town's clock that only strangers wind; ../shared/DOC.md has the promises that it keeps. */
public final class StrangersWind {
    public static final int BAD = -1, FULL = -2, FINDING = -3, STATE = -4, SPENT = -6, NONE = -9;

    private static final int NOTHING = 1, BEYOND = 2, UNLIKE = 3, NOUGHT = 4, SIZE = 5;
    private static final int ROWS = 6, ROW_PLACES = 40, TEXTS = 4, TEXT_BYTES = 60, KEEPS = 3;
    private static final int STRANGERS = 6, DEEDS = 40, DIAL = 12;
    private static final int STRONG = 1, CHILD = 2, PILGRIM = 3, SMUGGLER = 4, BEGGAR = 5;
    private static final int KINDS = 6, BLANK = 32;
    private static final int MOST_WOUND = 99, FORGIVING = 40, MOST_FROST = 3;
    private static final int LETTING_HOURS = 5, DUEL_TURNS = 4, MOST_STRIKES = 10;
    private static final int MEET_HOURS = 40, ODDS_HOURS = 12, TWELFTHS = 12;
    private static final int MOST_LOTS = 20;
    private static final long LOT_FACTOR = 48271L, LOT_MODULUS = 2147483647L;
    private static final int COUNTS = 11, TRAITS = 6;

    private final int[][] rows = new int[ROWS][ROW_PLACES];
    private final int[] rowSizes = new int[ROWS];
    private final byte[][] texts = new byte[TEXTS][TEXT_BYTES];
    private final int[] textSizes = new int[TEXTS];
    private final Town here = new Town();
    private final Town draft = new Town();
    private final Town[] keptTowns = new Town[KEEPS];
    private final boolean[] isKept = new boolean[KEEPS];
    private final Reader reader = new Reader();
    private final Lettings lettings = new Lettings();
    private final Orders orders = new Orders();
    private final Beard beard = new Beard();
    private final int[] findingCounts = new int[SIZE + 1];
    private int latestFinding = 0;
    private int toldAside = 0;
    private long toldUpper = 0;
    private long toldLower = 1;

    public StrangersWind() {
        Arrays.fill(rowSizes, -1);
        Arrays.fill(textSizes, -1);
        for (int k = 0; k < KEEPS; k++) {
            keptTowns[k] = new Town();
        }
    }

    // ---- 1 rows, texts, towns

    public int row(int r, int n) {
        if (!isRow(r) || n > ROW_PLACES) {
            return BAD;
        }
        if (n < 0) {
            return found(SIZE);
        }
        rowSizes[r] = n;
        Arrays.fill(rows[r], 0);
        return n;
    }

    public int lay(int r, int i, int v) {
        int refusal = refusedPlace(r, i);
        if (refusal != 0) {
            return refusal;
        }
        toldAside = rows[r][i];
        rows[r][i] = v;
        return 1;
    }

    public int at(int r, int i) {
        int refusal = refusedPlace(r, i);
        if (refusal != 0) {
            return refusal;
        }
        toldAside = rows[r][i];
        return 1;
    }

    public int tear(int r) {
        if (!isRow(r)) {
            return BAD;
        }
        if (rowSizes[r] < 0) {
            return found(NOTHING);
        }
        rowSizes[r] = -1;
        return 1;
    }

    public int copy(int r, int i, int to, int j, int n) {
        if (!isRow(r) || !isRow(to)) {
            return BAD;
        }
        if (n < 0) {
            return found(SIZE);
        }
        if (rowSizes[r] < 0 || rowSizes[to] < 0) {
            return found(NOTHING);
        }
        if (!isSpan(i, n, rowSizes[r]) || !isSpan(j, n, rowSizes[to])) {
            return found(BEYOND);
        }
        System.arraycopy(rows[r], i, rows[to], j, n);
        return 1;
    }

    public int mean(int r) {
        if (!isRow(r)) {
            return BAD;
        }
        int size = rowSizes[r];
        if (size < 0) {
            return found(NOTHING);
        }
        if (size == 0) {
            return found(NOUGHT);
        }
        long sum = 0;
        for (int i = 0; i < size; i++) {
            sum += rows[r][i];
        }
        toldAside = (int) (sum / size);
        return 1;
    }

    public int text(int t, int n) {
        if (!isText(t) || n > TEXT_BYTES) {
            return BAD;
        }
        if (n < 0) {
            return found(SIZE);
        }
        textSizes[t] = n;
        Arrays.fill(texts[t], (byte) BLANK);
        return n;
    }

    public int put(int t, int i, int v) {
        if (!isText(t)) {
            return BAD;
        }
        if (textSizes[t] < 0) {
            return found(NOTHING);
        }
        if (i < 0 || i >= textSizes[t]) {
            return found(BEYOND);
        }
        int before = texts[t][i];
        texts[t][i] = (byte) v;
        return before + 1000;
    }

    public int fault(int t) {
        if (!isText(t)) {
            return BAD;
        }
        if (textSizes[t] < 0) {
            return found(NOTHING);
        }
        return reader.readTown(texts[t], textSizes[t], draft);
    }

    public int town(int t) {
        if (!isText(t)) {
            return BAD;
        }
        if (textSizes[t] < 0) {
            return found(NOTHING);
        }
        if (reader.readTown(texts[t], textSizes[t], draft) != NONE) {
            return STATE;
        }
        draft.begin();
        here.takeFrom(draft);
        for (int k = 0; k < KEEPS; k++) {
            isKept[k] = false;
        }
        return here.size;
    }

    public int stranger(int i, int what) {
        if (!here.has(i) || what < 0 || what >= TRAITS) {
            return BAD;
        }
        toldAside = here.trait(i, what);
        return 1;
    }

    public int mark(int i, int kind) {
        if (!here.has(i) || kind <= 0 || kind >= KINDS) {
            return BAD;
        }
        if (!here.isOf(i, kind)) {
            return found(UNLIKE);
        }
        return here.markOf(i, kind);
    }

    public int gate(int i) {
        if (!here.has(i)) {
            return BAD;
        }
        if (here.done > 0) {
            return STATE;
        }
        int before = here.gates[i];
        here.gates[i] = 1 - before;
        return before;
    }

    // ---- 2 deeds

    public int let(int i) {
        if (!here.has(i)) {
            return BAD;
        }
        if (here.isIn(i)) {
            return STATE;
        }
        if (here.isFull(1)) {
            return FULL;
        }
        here.note(Town.COMES, i);
        return here.wound;
    }

    public int leave(int i) {
        if (!here.has(i)) {
            return BAD;
        }
        if (!here.isIn(i)) {
            return STATE;
        }
        if (here.isFull(1)) {
            return FULL;
        }
        here.note(Town.GOES, i);
        return Integer.bitCount(here.in);
    }

    public int hour() {
        if (here.size == 0) {
            return STATE;
        }
        if (here.isFull(1)) {
            return FULL;
        }
        int strikes = here.strikesNext(here.wound);
        here.note(Town.PASSES, 0);
        toldAside = here.clock;
        return strikes;
    }

    public int frost(int v) {
        if (v < 0 || v > MOST_FROST) {
            return BAD;
        }
        if (here.size == 0 || here.frost == v) {
            return STATE;
        }
        if (here.isFull(1)) {
            return FULL;
        }
        int before = here.frost;
        here.note(Town.FREEZES, v);
        return before;
    }

    public int undo(int n) {
        if (n < 0 || n > here.done) {
            return BAD;
        }
        int undone = here.done - n;
        here.redo(n);
        return undone;
    }

    public int keep(int k) {
        if (!isKeep(k)) {
            return BAD;
        }
        if (here.size == 0) {
            return STATE;
        }
        keptTowns[k].takeFrom(here);
        isKept[k] = true;
        return here.done;
    }

    public int on(int k) {
        if (!isKeep(k)) {
            return BAD;
        }
        if (!isKept[k]) {
            return found(NOTHING);
        }
        here.takeFrom(keptTowns[k]);
        return here.done;
    }

    // ---- 3 what the clock does (aside)

    public int lasts() {
        if (here.size == 0) {
            return STATE;
        }
        int hours = here.hoursLeft(here.wound);
        // The last of these HOURS leaves nothing WOUND, so that it STRIKES 1.
        toldAside = hours > 0 ? 1 : 0;
        return hours;
    }

    public int wound(int r) {
        int refusal = refusedGuests(r, STRANGERS, false);
        if (refusal != 0) {
            return refusal;
        }
        int wound = here.wound;
        int in = here.in;
        int eaten = 0;
        for (int k = 0; k < rowSizes[r]; k++) {
            int i = rows[r][k];
            wound = here.woundBy(i, wound, in);
            in |= 1 << i;
            eaten += here.breads[i];
        }
        toldAside = eaten;
        return wound;
    }

    public int most() {
        if (here.size == 0) {
            return STATE;
        }
        int farthest = here.wound;
        int by = 0;
        for (int set = 1; set < here.sets(); set++) {
            int far = here.woundBySet(set);
            if ((set & here.in) == 0 && far > farthest) {
                farthest = far;
                by = set;
            }
        }
        toldAside = by;
        return farthest;
    }

    public int order(int r) {
        if (!isRow(r)) {
            return BAD;
        }
        if (here.size == 0) {
            return STATE;
        }
        orders.search(here);
        fillRow(r, orders.best, orders.due);
        return orders.farthest;
    }

    // ---- 4 lettings

    public int ways(int n, int c) {
        if (!isLettingSize(n) || !isDial(c)) {
            return BAD;
        }
        if (here.size == 0) {
            return STATE;
        }
        lettings.search(here, n, c);
        tell(lettings.ways, 1);
        toldAside = lettings.leastBread;
        return 1;
    }

    public int bread(int n, int c, int r) {
        if (!isLettingSize(n) || !isDial(c) || !isRow(r)) {
            return BAD;
        }
        if (here.size == 0) {
            return STATE;
        }
        lettings.search(here, n, c);
        if (lettings.leastBread == NONE) {
            return NONE;
        }
        fillRow(r, lettings.best, n);
        return lettings.leastBread;
    }

    public int goes(int n) {
        if (!isLettingSize(n)) {
            return BAD;
        }
        if (here.size == 0) {
            return STATE;
        }
        lettings.search(here, n, 0);
        toldAside = lettings.fewest;
        return lettings.mostHours;
    }

    public int behind(int r) {
        int refusal = refusedGuests(r, LETTING_HOURS, true);
        if (refusal != 0) {
            return refusal;
        }
        int wound = here.wound;
        int in = here.in;
        int went = 0;
        for (int k = 0; k < rowSizes[r]; k++) {
            int i = rows[r][k];
            if (i != NONE) {
                wound = here.woundBy(i, wound, in);
                in |= 1 << i;
            }
            went += wound > 0 ? 1 : 0;
            wound = here.woundNext(wound);
        }
        toldAside = here.clockAfter(went);
        return wound;
    }

    // ---- 5 the beard

    public int fits(int v) {
        if (!isStrike(v)) {
            return BAD;
        }
        if (here.size == 0) {
            return STATE;
        }
        beard.search(here, v);
        tell(beard.sets, 1);
        toldAside = beard.first;
        return 1;
    }

    public int sure(int v) {
        int refusal = refusedBeard(v);
        if (refusal != 0) {
            return refusal;
        }
        toldAside = here.notIn() & ~beard.inSome;
        return beard.inAll;
    }

    public int ask(int v) {
        int refusal = refusedBeard(v);
        if (refusal != 0) {
            return refusal;
        }
        int best = NONE;
        int least = 0;
        for (int i = 0; i < here.size; i++) {
            int with = beard.with[i];
            int greater = Math.max(with, beard.sets - with);
            if (!here.isIn(i) && (best == NONE || greater < least)) {
                best = i;
                least = greater;
            }
        }
        if (best != NONE) {
            toldAside = least;
        }
        return best;
    }

    public int came(int v) {
        int refusal = refusedBeard(v);
        if (refusal != 0) {
            return refusal;
        }
        toldAside = beard.most;
        return beard.fewest;
    }

    // ---- 6 elections, gates, other clocks

    public int duel(int n) {
        if (n < 0 || n > DUEL_TURNS) {
            return BAD;
        }
        if (here.size == 0) {
            return STATE;
        }
        return duelFrom(here, 0, n, here.wound, here.in);
    }

    public int shut(int gate) {
        if (gate != 0 && gate != 1) {
            return BAD;
        }
        if (here.size == 0) {
            return STATE;
        }
        int set = 0;
        for (int i = 0; i < here.size; i++) {
            if (!here.isIn(i) && here.gates[i] != gate) {
                set |= 1 << i;
            }
        }
        return here.woundBySet(set);
    }

    public int meets(int c) {
        if (!isDial(c)) {
            return BAD;
        }
        if (here.size == 0) {
            return STATE;
        }
        int going = here.hoursLeft(here.wound);
        for (int h = 0; h <= MEET_HOURS; h++) {
            int shown = here.clockAfter(Math.min(h, going));
            if (shown == (c + h) % DIAL) {
                toldAside = shown;
                return h;
            }
        }
        return NONE;
    }

    public int check(int r) {
        if (!isRow(r)) {
            return BAD;
        }
        if (here.size == 0) {
            return STATE;
        }
        int size = rowSizes[r];
        if (size < 0) {
            return found(NOTHING);
        }
        if (size % 2 != 0) {
            return found(SIZE);
        }
        for (int k = 0; k < size; k += 2) {
            if (!here.has(rows[r][k])) {
                return found(UNLIKE);
            }
        }
        return firstFalsePair(rows[r], size / 2);
    }

    // ---- 7 chances, lots

    public int odds(int n, int p) {
        if (n < 0 || n > ODDS_HOURS || !isTwelfth(p)) {
            return BAD;
        }
        if (here.size == 0) {
            return STATE;
        }
        long sum = 0;
        for (int set = 0; set < here.sets(); set++) {
            if ((set & here.in) == 0 && here.hoursLeft(here.woundBySet(set)) >= n) {
                sum += here.weight(set, p);
            }
        }
        tell(sum, here.weights());
        return 1;
    }

    public int mid(int p) {
        if (!isTwelfth(p)) {
            return BAD;
        }
        if (here.size == 0) {
            return STATE;
        }
        long sum = 0;
        for (int set = 0; set < here.sets(); set++) {
            if ((set & here.in) == 0) {
                sum += here.weight(set, p) * here.woundBySet(set);
            }
        }
        tell(sum, here.weights());
        return 1;
    }

    public int lots(int n, int seed) {
        if (n < 1 || n > MOST_LOTS || seed < 1 || seed >= LOT_MODULUS) {
            return BAD;
        }
        if (here.size == 0) {
            return STATE;
        }
        if (here.isFull(n)) {
            return FULL;
        }
        long lot = seed;
        for (int k = 0; k < n; k++) {
            lot = LOT_FACTOR * lot % LOT_MODULUS;
            noteLot(lot);
        }
        return here.wound;
    }

    // ---- 8 what is told

    public int asked() {
        return toldAside;
    }

    public long upper() {
        return toldUpper;
    }

    public long lower() {
        return toldLower;
    }

    public int count(int what) {
        switch (what) {
            case 0: return here.size;
            case 1: return here.wound;
            case 2: return here.clock;
            case 3: return here.hours;
            case 4: return here.done;
            case 5: return here.frost;
            case 6: return here.in;
            case 7: return Integer.bitCount(here.allOf(STRONG));
            case 8: return thoseThere(rowSizes);
            case 9: return thoseThere(textSizes);
            case 10: return thoseKept();
            default: return BAD;
        }
    }

    public int finding() {
        return latestFinding;
    }

    public int findings(int f) {
        if (f < NOTHING || f > SIZE) {
            return BAD;
        }
        return findingCounts[f];
    }

    public long digest() {
        long h = 17;
        for (int what = 0; what < COUNTS; what++) {
            h = 31 * h + count(what);
        }
        for (int i = 0; i < here.size; i++) {
            for (int what = 0; what < TRAITS; what++) {
                h = 31 * h + here.trait(i, what);
            }
        }
        for (int k = 0; k < KEEPS; k++) {
            h = 31 * h + (isKept[k] ? keptTowns[k].done : -1);
        }
        for (int r = 0; r < ROWS; r++) {
            h = 31 * h + rowSizes[r];
            for (int i = 0; i < rowSizes[r]; i++) {
                h = 31 * h + rows[r][i];
            }
        }
        for (int t = 0; t < TEXTS; t++) {
            h = 31 * h + textSizes[t];
            for (int i = 0; i < textSizes[t]; i++) {
                h = 31 * h + texts[t][i];
            }
        }
        return h;
    }

    // ---- numbers that are as told

    private static boolean isRow(int r) {
        return r >= 0 && r < ROWS;
    }

    private static boolean isText(int t) {
        return t >= 0 && t < TEXTS;
    }

    private static boolean isKeep(int k) {
        return k >= 0 && k < KEEPS;
    }

    private static boolean isLettingSize(int n) {
        return n >= 0 && n <= LETTING_HOURS;
    }

    private static boolean isDial(int c) {
        return c >= 0 && c < DIAL;
    }

    private static boolean isStrike(int v) {
        return v >= 0 && v <= MOST_STRIKES;
    }

    private static boolean isTwelfth(int p) {
        return p >= 0 && p <= TWELFTHS;
    }

    private static boolean isSpan(int from, int n, int size) {
        // size - n can't wrap around, from + n could.
        return from >= 0 && from <= size - n;
    }

    // ---- what is refused: the answer that is due, or 0

    private int found(int finding) {
        latestFinding = finding;
        findingCounts[finding]++;
        return FINDING;
    }

    private int refusedPlace(int r, int i) {
        if (!isRow(r)) {
            return BAD;
        }
        if (rowSizes[r] < 0) {
            return found(NOTHING);
        }
        if (i < 0 || i >= rowSizes[r]) {
            return found(BEYOND);
        }
        return 0;
    }

    private int refusedGuests(int r, int most, boolean nobodyToo) {
        if (!isRow(r)) {
            return BAD;
        }
        if (here.size == 0) {
            return STATE;
        }
        if (rowSizes[r] < 0) {
            return found(NOTHING);
        }
        if (rowSizes[r] > most) {
            return found(SIZE);
        }
        return canAllCome(r, nobodyToo) ? 0 : found(UNLIKE);
    }

    private boolean canAllCome(int r, boolean nobodyToo) {
        int in = here.in;
        for (int k = 0; k < rowSizes[r]; k++) {
            int i = rows[r][k];
            if (nobodyToo && i == NONE) {
                continue;
            }
            if (!here.has(i) || (in >> i & 1) == 1) {
                return false;
            }
            in |= 1 << i;
        }
        return true;
    }

    private int refusedBeard(int v) {
        if (!isStrike(v)) {
            return BAD;
        }
        if (here.size == 0) {
            return STATE;
        }
        beard.search(here, v);
        return beard.sets == 0 ? found(NOUGHT) : 0;
    }

    // ---- parts of the calls

    private void fillRow(int r, int[] from, int n) {
        rowSizes[r] = n;
        System.arraycopy(from, 0, rows[r], 0, n);
    }

    private void tell(long up, long low) {
        long shared = commonDivisor(up, low);
        toldUpper = up / shared;
        toldLower = low / shared;
    }

    private static long commonDivisor(long a, long b) {
        long greater = a;
        long smaller = b;
        // Euclid needs fewer than 100 steps for any two longs.
        for (int step = 0; step < 100 && smaller != 0; step++) {
            long rest = greater % smaller;
            greater = smaller;
            smaller = rest;
        }
        return greater == 0 ? 1 : greater;
    }

    private static int thoseThere(int[] sizes) {
        int there = 0;
        for (int size : sizes) {
            there += size >= 0 ? 1 : 0;
        }
        return there;
    }

    private int thoseKept() {
        int there = 0;
        for (boolean kept : isKept) {
            there += kept ? 1 : 0;
        }
        return there;
    }

    private int firstFalsePair(int[] book, int pairs) {
        int wound = here.wound;
        int in = here.in;
        for (int k = 0; k < pairs; k++) {
            int i = book[2 * k];
            if ((in >> i & 1) == 1) {
                return k;
            }
            wound = here.woundBy(i, wound, in);
            in |= 1 << i;
            if (wound != book[2 * k + 1]) {
                return k;
            }
        }
        return NONE;
    }

    private void noteLot(long lot) {
        if (lot % 3 == 0) {
            here.note(Town.PASSES, 0);
            return;
        }
        int i = (int) (lot / 8 % here.size);
        here.note(here.isIn(i) ? Town.GOES : Town.COMES, i);
    }

    private static int duelFrom(Town town, int turn, int turns, int wound, int in) {
        if (turn >= turns || turn >= DUEL_TURNS) {
            return wound;
        }
        boolean wantsMuch = turn % 2 == 0;
        int best = duelFrom(town, turn + 1, turns, wound, in);
        for (int i = 0; i < town.size; i++) {
            if ((in >> i & 1) == 0) {
                int next = town.woundBy(i, wound, in);
                int end = duelFrom(town, turn + 1, turns, next, in | 1 << i);
                best = wantsMuch ? Math.max(best, end) : Math.min(best, end);
            }
        }
        return best;
    }

    /** A TOWN as it is, with its DEEDS, by which it can be brought back to any of them. */
    static final class Town {
        static final int COMES = 0, GOES = 1, PASSES = 2, FREEZES = 3;

        int size = 0;
        final int[] kinds = new int[STRANGERS];
        final int[] strengths = new int[STRANGERS];
        final int[] gates = new int[STRANGERS];
        final int[] breads = new int[STRANGERS];
        int firstWound = 0;
        int firstFrost = 0;
        int wound = 0;
        int frost = 0;
        int clock = 0;
        int hours = 0;
        int in = 0;
        final int[] deeds = new int[DEEDS];
        final int[] deedNumbers = new int[DEEDS];
        int done = 0;

        void takeFrom(Town other) {
            size = other.size;
            System.arraycopy(other.kinds, 0, kinds, 0, STRANGERS);
            System.arraycopy(other.strengths, 0, strengths, 0, STRANGERS);
            System.arraycopy(other.gates, 0, gates, 0, STRANGERS);
            System.arraycopy(other.breads, 0, breads, 0, STRANGERS);
            firstWound = other.firstWound;
            firstFrost = other.firstFrost;
            wound = other.wound;
            frost = other.frost;
            clock = other.clock;
            hours = other.hours;
            in = other.in;
            System.arraycopy(other.deeds, 0, deeds, 0, DEEDS);
            System.arraycopy(other.deedNumbers, 0, deedNumbers, 0, DEEDS);
            done = other.done;
        }

        void begin() {
            wound = firstWound;
            frost = firstFrost;
            clock = 0;
            hours = 0;
            in = 0;
            done = 0;
        }

        boolean has(int i) {
            return i >= 0 && i < size;
        }

        boolean isIn(int i) {
            return (in >> i & 1) == 1;
        }

        int sets() {
            return 1 << size;
        }

        int notIn() {
            return sets() - 1 & ~in;
        }

        boolean isFull(int more) {
            return done + more > DEEDS;
        }

        void note(int deed, int number) {
            if (isFull(1)) {
                return;
            }
            deeds[done] = deed;
            deedNumbers[done] = number;
            done++;
            carryOut(deed, number);
        }

        void redo(int n) {
            begin();
            for (int k = 0; k < n; k++) {
                carryOut(deeds[k], deedNumbers[k]);
            }
            done = n;
        }

        private void carryOut(int deed, int number) {
            switch (deed) {
                case COMES:
                    wound = woundBy(number, wound, in);
                    in |= 1 << number;
                    break;
                case GOES:
                    in &= ~(1 << number);
                    break;
                case PASSES:
                    clock = clockAfter(wound > 0 ? 1 : 0);
                    wound = woundNext(wound);
                    hours++;
                    break;
                default:
                    frost = number;
                    break;
            }
        }

        boolean isOf(int i, int kind) {
            int own = kinds[i];
            return own == kind || own == SMUGGLER && kind == STRONG || own == BEGGAR && kind == CHILD;
        }

        int allOf(int kind) {
            int set = 0;
            for (int i = 0; i < size; i++) {
                if (isOf(i, kind)) {
                    set |= 1 << i;
                }
            }
            return set;
        }

        int trait(int i, int what) {
            switch (what) {
                case 0: return kinds[i];
                case 1: return strengths[i];
                case 2: return gates[i];
                case 3: return breads[i];
                case 4: return isIn(i) ? 1 : 0;
                default: return turns(i, wound, in);
            }
        }

        int markOf(int i, int kind) {
            int others = ~(1 << i);
            switch (kind) {
                case STRONG: return strengths[i] / 2;
                case CHILD: return 4 - strengths[i] % 4;
                case PILGRIM: return Integer.bitCount(allOf(PILGRIM) & others);
                case SMUGGLER: return Math.max(0, wound - FORGIVING);
                default: return Integer.bitCount(in & others);
            }
        }

        /** TURNS that STRANGER i gives at what is WOUND, with a set that is IN. */
        int turns(int i, int wound, int in) {
            int strength = strengths[i];
            int others = in & ~(1 << i);
            switch (kinds[i]) {
                case STRONG: return strength + strength / 2;
                case CHILD: return strength / 4 + 1;
                case PILGRIM: return strength + Integer.bitCount(others & allOf(PILGRIM));
                case SMUGGLER: return wound > FORGIVING ? 0 : strength + strength / 2;
                case BEGGAR: return strength / 4 + 1 + Integer.bitCount(others);
                default: return strength;
            }
        }

        /** How far it is WOUND when STRANGER i has come IN. */
        int woundBy(int i, int wound, int in) {
            int turns = turns(i, wound, in);
            int next = gates[i] == 0 ? Math.min(MOST_WOUND, wound + turns) : Math.max(0, wound - turns);
            return next > FORGIVING ? next - (next - FORGIVING) / 10 : next;
        }

        int woundBySet(int set) {
            int far = wound;
            int inside = in;
            for (int i = 0; i < size; i++) {
                if ((set >> i & 1) == 1) {
                    far = woundBy(i, far, inside);
                    inside |= 1 << i;
                }
            }
            return far;
        }

        /** How far it is WOUND behind an HOUR. */
        int woundNext(int wound) {
            return Math.max(0, wound - 1 - frost);
        }

        int strikesNext(int wound) {
            return wound > 0 ? woundNext(wound) / 10 + 1 : 0;
        }

        int clockAfter(int went) {
            return (clock + went) % DIAL;
        }

        int hoursLeft(int wound) {
            return (wound + frost) / (1 + frost);
        }

        /** Of weights() ways in which those not IN may come, by p of 12 each, how many bring just this set. */
        long weight(int set, int p) {
            long ways = 1;
            for (int i = 0; i < size; i++) {
                if (!isIn(i)) {
                    ways *= (set >> i & 1) == 1 ? p : TWELFTHS - p;
                }
            }
            return ways;
        }

        long weights() {
            long ways = 1;
            for (int i = 0; i < size; i++) {
                ways *= isIn(i) ? 1 : TWELFTHS;
            }
            return ways;
        }
    }

    /** Reads a TOWN from a TEXT; where a part can't be read, place stays at the FAULT. */
    static final class Reader {
        private byte[] bytes = new byte[0];
        private int size = 0;
        private int place = 0;

        /** The FAULT, or NONE. */
        int readTown(byte[] from, int length, Town into) {
            bytes = from;
            size = length;
            place = 0;
            into.size = 0;
            skipBlanks();
            if (!readSpring(into)) {
                return place;
            }
            skipBlanks();
            for (int n = 0; n < STRANGERS && place < size; n++) {
                if (!readStranger(into, n)) {
                    return place;
                }
                into.size = n + 1;
                skipBlanks();
            }
            return place < size || into.size == 0 ? place : NONE;
        }

        private void skipBlanks() {
            while (place < size && bytes[place] == BLANK) {
                place++;
            }
        }

        private boolean readSpring(Town into) {
            if (place >= size || bytes[place] != 'w') {
                return false;
            }
            place++;
            int pair = place;
            int tens = readFigure(0, 9);
            int ones = tens < 0 ? -1 : readFigure(0, 9);
            if (ones < 0) {
                return false;
            }
            if (10 * tens + ones > 60) {
                place = pair;
                return false;
            }
            into.firstWound = 10 * tens + ones;
            into.firstFrost = readFigure(0, MOST_FROST);
            return into.firstFrost >= 0;
        }

        private boolean readStranger(Town into, int n) {
            into.kinds[n] = readKind();
            if (into.kinds[n] < 0) {
                return false;
            }
            into.strengths[n] = readFigure(1, 9);
            if (into.strengths[n] < 0) {
                return false;
            }
            into.gates[n] = readFigure(0, 1);
            if (into.gates[n] < 0) {
                return false;
            }
            into.breads[n] = readFigure(0, 9);
            return into.breads[n] >= 0;
        }

        private int readKind() {
            if (place >= size) {
                return -1;
            }
            int kind = kindOf(bytes[place]);
            if (kind >= 0) {
                place++;
            }
            return kind;
        }

        private static int kindOf(int letter) {
            switch (letter) {
                case 's': return 0;
                case 't': return STRONG;
                case 'c': return CHILD;
                case 'p': return PILGRIM;
                case 'm': return SMUGGLER;
                case 'b': return BEGGAR;
                default: return -1;
            }
        }

        /** The figure, or -1, if there is none from low to high. */
        private int readFigure(int low, int high) {
            if (place >= size || bytes[place] < '0' + low || bytes[place] > '0' + high) {
                return -1;
            }
            int figure = bytes[place] - '0';
            place++;
            return figure;
        }
    }

    /** All LETTINGS of some HOURS: those that lead to a told hour, and those in which the CLOCK goes longest. */
    static final class Lettings {
        private int hours = 0;
        private int told = 0;
        private final int[] tried = new int[LETTING_HOURS];
        final int[] best = new int[LETTING_HOURS];
        int ways = 0;
        int leastBread = NONE;
        int mostHours = 0;
        int fewest = 0;

        void search(Town town, int n, int c) {
            hours = n;
            told = c;
            ways = 0;
            leastBread = NONE;
            mostHours = -1;
            fewest = 0;
            letIn(this, town, 0, town.wound, town.in, 0, 0);
        }

        /** Ahead of HOUR h, so far wound with those that are in, bread eaten, HOURS that the CLOCK went. */
        private static void letIn(Lettings all, Town town, int h, int wound, int in, int eaten, int went) {
            if (h >= all.hours || h >= LETTING_HOURS) {
                all.weigh(town, in, eaten, went);
                return;
            }
            all.tried[h] = NONE;
            letIn(all, town, h + 1, town.woundNext(wound), in, eaten, went + (wound > 0 ? 1 : 0));
            for (int i = 0; i < town.size; i++) {
                if ((in >> i & 1) == 0) {
                    all.tried[h] = i;
                    int then = town.woundBy(i, wound, in);
                    int on = went + (then > 0 ? 1 : 0);
                    letIn(all, town, h + 1, town.woundNext(then), in | 1 << i, eaten + town.breads[i], on);
                }
            }
        }

        private void weigh(Town town, int in, int eaten, int went) {
            int guests = Integer.bitCount(in) - Integer.bitCount(town.in);
            if (went > mostHours || went == mostHours && guests < fewest) {
                mostHours = went;
                fewest = guests;
            }
            if (town.clockAfter(went) != told) {
                return;
            }
            ways++;
            if (leastBread == NONE || eaten < leastBread) {
                leastBread = eaten;
                System.arraycopy(tried, 0, best, 0, hours);
            }
        }
    }

    /** All orders in which those not IN may come. */
    static final class Orders {
        private final int[] tried = new int[STRANGERS];
        final int[] best = new int[STRANGERS];
        int due = 0;
        int farthest = 0;

        void search(Town town) {
            due = Integer.bitCount(town.notIn());
            farthest = -1;
            lineUp(this, town, 0, town.wound, town.in);
        }

        private static void lineUp(Orders all, Town town, int k, int wound, int in) {
            if (k >= all.due || k >= STRANGERS) {
                // Only a farther one takes its place: the first by numbers stays.
                if (wound > all.farthest) {
                    all.farthest = wound;
                    System.arraycopy(all.tried, 0, all.best, 0, all.due);
                }
                return;
            }
            for (int i = 0; i < town.size; i++) {
                if ((in >> i & 1) == 0) {
                    all.tried[k] = i;
                    lineUp(all, town, k + 1, town.woundBy(i, wound, in), in | 1 << i);
                }
            }
        }
    }

    /** The sets of those not IN behind which an HOUR STRIKES a number. */
    static final class Beard {
        int sets = 0;
        int first = NONE;
        int inAll = 0;
        int inSome = 0;
        int fewest = 0;
        int most = 0;
        final int[] with = new int[STRANGERS];

        void search(Town town, int strikes) {
            sets = 0;
            first = NONE;
            inAll = town.notIn();
            inSome = 0;
            fewest = STRANGERS;
            most = 0;
            Arrays.fill(with, 0);
            for (int set = 0; set < town.sets(); set++) {
                if ((set & town.in) == 0 && town.strikesNext(town.woundBySet(set)) == strikes) {
                    tally(set);
                }
            }
        }

        private void tally(int set) {
            if (sets == 0) {
                first = set;
            }
            sets++;
            inAll &= set;
            inSome |= set;
            fewest = Math.min(fewest, Integer.bitCount(set));
            most = Math.max(most, Integer.bitCount(set));
            for (int i = 0; i < STRANGERS; i++) {
                with[i] += set >> i & 1;
            }
        }
    }
}
