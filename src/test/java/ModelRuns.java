import java.math.BigInteger;
import java.util.ArrayList;
import java.util.Arrays;
import java.util.List;
import java.util.Random;

/**
 * Long runs of calls by lot (of fixed seeds), each answered by the class and by a slow model written apart from it:
 * the model keeps every state that was, tries all cases one by one, and reads TOWNS by a pattern.
 */
public final class ModelRuns {
    private static final int BAD = -1, FULL = -2, FINDING = -3, STATE = -4, NONE = -9;
    private static final int RUNS = 4000, CALLS = 512, DEAREST_STEP = 6;

    public static void main(String[] args) {
        for (int run = 0; run < RUNS; run++) {
            if (!agree(run)) {
                System.exit(1);
            }
        }
        System.out.println(RUNS + " runs of " + CALLS + " calls agree with the model");
    }

    private static boolean agree(int run) {
        Random random = new Random(run);
        StrangersWind x = new StrangersWind();
        Model m = new Model();
        List<String> calls = new ArrayList<>();
        boolean wild = run % 5 == 0;
        List<int[]> waiting = new ArrayList<>();
        int used = 0;
        while (used + DEAREST_STEP <= CALLS) {
            if (waiting.isEmpty()) {
                choose(random, wild, m, waiting);
            }
            int[] c = waiting.remove(0);
            calls.add(Arrays.toString(c));
            long got = call(x, c);
            long want = m.call(c);
            // What is told is asked for now and then alone: these are calls, too, and 512 are promised.
            boolean askAll = random.nextInt(8) == 0;
            boolean askAside = askAll || c[0] != 7;
            used += askAll ? DEAREST_STEP : askAside ? 2 : 1;
            boolean same = got == want && (!askAside || x.asked() == m.asked);
            if (!same || askAll && !tellAlike(x, m)) {
                System.out.println("run " + run + ": the last call answered " + got + ", the model " + want
                    + ", or they tell otherwise behind it: " + calls);
                return false;
            }
        }
        return true;
    }

    private static boolean tellAlike(StrangersWind x, Model m) {
        return x.upper() == m.upper && x.lower() == m.lower && x.finding() == m.finding && x.digest() == m.digest();
    }

    /** One call, or the calls that write a whole TEXT or ROW. */
    private static void choose(Random random, boolean wild, Model m, List<int[]> into) {
        int pick = random.nextInt(100);
        if (m.now == null && pick < 60 || pick < 2) {
            String text = townText(random);
            int t = random.nextInt(4);
            into.add(new int[] {6, t, text.length()});
            for (int i = 0; i < text.length(); i++) {
                into.add(new int[] {7, t, i, text.charAt(i)});
            }
            into.add(new int[] {8, t});
            into.add(new int[] {9, t});
        } else if (pick < 12) {
            int r = random.nextInt(6);
            int n = random.nextInt(7);
            boolean book = random.nextInt(3) == 0;
            into.add(new int[] {0, r, n});
            for (int i = 0; i < n; i++) {
                int v = random.nextInt(8) == 0 ? NONE : random.nextInt(6);
                into.add(new int[] {1, r, i, book && i % 2 == 1 ? random.nextInt(60) : v});
            }
            into.add(new int[] {20 + random.nextInt(3), r});
        } else {
            into.add(anyCall(random, wild));
        }
    }

    private static String townText(Random random) {
        StringBuilder s = new StringBuilder();
        blanks(random, s);
        s.append('w').append(random.nextInt(7)).append(random.nextInt(random.nextInt(3) == 0 ? 10 : 1) )
            .append(random.nextInt(4));
        int n = random.nextInt(20) == 0 ? random.nextInt(9) : 1 + random.nextInt(6);
        for (int i = 0; i < n; i++) {
            blanks(random, s);
            s.append("stcpmb".charAt(random.nextInt(6))).append(1 + random.nextInt(9));
            s.append(random.nextInt(3) / 2).append(random.nextInt(10));
        }
        blanks(random, s);
        if (random.nextInt(4) == 0) {
            s.setCharAt(random.nextInt(s.length()), (char) (random.nextBoolean() ? '0' + random.nextInt(10)
                : random.nextInt(256)));
        }
        if (random.nextInt(8) == 0) {
            s.setLength(random.nextInt(s.length()));
        }
        s.setLength(Math.min(60, s.length()));
        return s.toString();
    }

    private static void blanks(Random random, StringBuilder s) {
        for (int k = random.nextInt(3); k > 1; k--) {
            s.append(' ');
        }
    }

    /** Bounds of the arguments by call: one below and one above are tried, too. */
    private static final int[][] BOUNDS = {{6, 41}, {6, 8, 60}, {6, 8}, {6}, {6, 8, 6, 8, 8}, {6}, {4, 61},
        {4, 60, 256}, {4}, {4}, {6, 6}, {6, 6}, {6}, {6}, {6}, {}, {4}, {41}, {3}, {3}, {6}, {6}, {6}, {}, {}, {6},
        {6, 12}, {6, 12, 6}, {6}, {11}, {11}, {11}, {11}, {5}, {2}, {12}, {13, 13}, {13}, {21, 1000}, {11}, {6}};

    private static int[] anyCall(Random random, boolean wild) {
        int which = random.nextInt(BOUNDS.length);
        if (which == 3 || which == 6 || which == 9) {
            which = random.nextInt(4) == 0 ? which : 13 + random.nextInt(3);
        }
        if (which == 9 && random.nextInt(4) != 0) {
            which = 15;
        }
        int[] bounds = BOUNDS[which];
        int[] c = new int[1 + bounds.length];
        c[0] = which;
        for (int i = 0; i < bounds.length; i++) {
            int edge = random.nextInt(wild ? 12 : 40);
            c[1 + i] = edge == 0 ? -1 : edge == 1 ? bounds[i] : random.nextInt(bounds[i]);
            if (wild && random.nextInt(40) == 0) {
                c[1 + i] = random.nextInt();
            }
        }
        return c;
    }

    private static long call(StrangersWind x, int[] c) {
        switch (c[0]) {
            case 0: return x.row(c[1], c[2]);
            case 1: return x.lay(c[1], c[2], c[3]);
            case 2: return x.at(c[1], c[2]);
            case 3: return x.tear(c[1]);
            case 4: return x.copy(c[1], c[2], c[3], c[4], c[5]);
            case 5: return x.mean(c[1]);
            case 6: return x.text(c[1], c[2]);
            case 7: return x.put(c[1], c[2], c[3]);
            case 8: return x.fault(c[1]);
            case 9: return x.town(c[1]);
            case 10: return x.stranger(c[1], c[2]);
            case 11: return x.mark(c[1], c[2]);
            case 12: return x.gate(c[1]);
            case 13: return x.let(c[1]);
            case 14: return x.leave(c[1]);
            case 15: return x.hour();
            case 16: return x.frost(c[1]);
            case 17: return x.undo(c[1]);
            case 18: return x.keep(c[1]);
            case 19: return x.on(c[1]);
            case 20: return x.wound(c[1]);
            case 21: return x.behind(c[1]);
            case 22: return x.check(c[1]);
            case 23: return x.lasts();
            case 24: return x.most();
            case 25: return x.order(c[1]);
            case 26: return x.ways(c[1], c[2]);
            case 27: return x.bread(c[1], c[2], c[3]);
            case 28: return x.goes(c[1]);
            case 29: return x.fits(c[1]);
            case 30: return x.sure(c[1]);
            case 31: return x.ask(c[1]);
            case 32: return x.came(c[1]);
            case 33: return x.duel(c[1]);
            case 34: return x.shut(c[1]);
            case 35: return x.meets(c[1]);
            case 36: return x.odds(c[1], c[2]);
            case 37: return x.mid(c[1]);
            case 38: return x.lots(c[1], c[2]);
            case 39: return x.count(c[1]);
            default: return x.findings(c[1]);
        }
    }

    private static final class Guest {
        char letter;
        int strength;
        int gate;
        int bread;
        boolean in;

        Guest twin() {
            Guest g = new Guest();
            g.letter = letter;
            g.strength = strength;
            g.gate = gate;
            g.bread = bread;
            g.in = in;
            return g;
        }

        boolean isStrong() {
            return letter == 't' || letter == 'm';
        }

        boolean isChild() {
            return letter == 'c' || letter == 'b';
        }
    }

    /** One state of a TOWN; whatever is done makes another one. */
    private static final class Stand {
        final List<Guest> guests = new ArrayList<>();
        int wound;
        int clock;
        int frost;
        int hours;
        int struck;

        Stand twin() {
            Stand s = new Stand();
            for (Guest g : guests) {
                s.guests.add(g.twin());
            }
            s.wound = wound;
            s.clock = clock;
            s.frost = frost;
            s.hours = hours;
            return s;
        }

        int turns(int i) {
            Guest g = guests.get(i);
            int pilgrims = 0;
            int others = 0;
            for (Guest o : guests) {
                if (o != g && o.in) {
                    others++;
                    pilgrims += o.letter == 'p' ? 1 : 0;
                }
            }
            if (g.letter == 'm' && wound > 40) {
                return 0;
            }
            if (g.isStrong()) {
                return g.strength * 3 / 2;
            }
            if (g.isChild()) {
                return g.strength / 4 + 1 + (g.letter == 'b' ? others : 0);
            }
            return g.strength + (g.letter == 'p' ? pilgrims : 0);
        }

        Stand in(int i) {
            int turns = turns(i);
            Stand s = twin();
            s.guests.get(i).in = true;
            s.wound += guests.get(i).gate == 0 ? turns : -turns;
            s.wound = s.wound > 99 ? 99 : s.wound < 0 ? 0 : s.wound;
            if (s.wound > 40) {
                s.wound -= (s.wound - 40) / 10;
            }
            return s;
        }

        Stand out(int i) {
            Stand s = twin();
            s.guests.get(i).in = false;
            return s;
        }

        Stand hour() {
            Stand s = twin();
            s.hours++;
            if (wound > 0) {
                s.clock = clock == 11 ? 0 : clock + 1;
                s.wound = wound - 1;
                for (int k = 0; k < frost && s.wound > 0; k++) {
                    s.wound--;
                }
                s.struck = s.wound / 10 + 1;
            }
            return s;
        }

        Stand set(int bits) {
            Stand s = this;
            for (int i = 0; i < guests.size(); i++) {
                if ((bits & 1 << i) != 0) {
                    s = s.in(i);
                }
            }
            return s;
        }

        int lasts() {
            int h = 0;
            for (Stand s = this; s.wound > 0; s = s.hour()) {
                h++;
            }
            return h;
        }

        int bitsIn() {
            int bits = 0;
            for (int i = 0; i < guests.size(); i++) {
                bits += guests.get(i).in ? 1 << i : 0;
            }
            return bits;
        }
    }

    private static final class Kept {
        final List<Stand> stands;

        Kept(List<Stand> stands) {
            this.stands = new ArrayList<>();
            for (Stand s : stands) {
                this.stands.add(s.twin());
            }
        }
    }

    private static final class Model {
        final int[][] rows = new int[6][];
        final byte[][] texts = new byte[4][];
        List<Stand> stands = new ArrayList<>();
        Stand now = null;
        final Kept[] kept = new Kept[3];
        int asked = 0;
        long upper = 0;
        long lower = 1;
        int finding = 0;
        final int[] findings = new int[6];

        int find(int f) {
            finding = f;
            findings[f]++;
            return FINDING;
        }

        int deeds() {
            return Math.max(0, stands.size() - 1);
        }

        boolean out(int v, int bound) {
            return v < 0 || v >= bound;
        }

        boolean none(int i) {
            return now == null || out(i, now.guests.size());
        }

        void go(Stand s) {
            stands.add(s);
            now = s;
        }

        int ask(int aside, int answer) {
            asked = aside;
            return answer;
        }

        void tell(long up, long low) {
            long g = BigInteger.valueOf(up).gcd(BigInteger.valueOf(low)).longValue();
            upper = up / g;
            lower = low / g;
        }

        long call(int[] c) {
            if (c[0] < 8) {
                return rowsTexts(c);
            }
            return c[0] < 20 ? towns(c) : c[0] < 30 ? asides(c) : c[0] < 39 ? riddles(c) : counts(c);
        }

        long rowsTexts(int[] c) {
            int r = c[1];
            if (out(r, c[0] >= 6 ? 4 : 6) || c[0] == 4 && out(c[3], 6)) {
                return BAD;
            }
            if (c[0] == 0 || c[0] == 6) {
                if (c[2] > (c[0] == 0 ? 40 : 60)) {
                    return BAD;
                }
                if (c[2] < 0) {
                    return find(5);
                }
                if (c[0] == 0) {
                    rows[r] = new int[c[2]];
                } else {
                    texts[r] = new byte[c[2]];
                    Arrays.fill(texts[r], (byte) ' ');
                }
                return c[2];
            }
            if (c[0] == 4 && c[5] < 0) {
                return find(5);
            }
            if (c[0] == 7 ? texts[r] == null : rows[r] == null || c[0] == 4 && rows[c[3]] == null) {
                return find(1);
            }
            if ((c[0] == 1 || c[0] == 2) && out(c[2], rows[r].length) || c[0] == 7 && out(c[2], texts[r].length)) {
                return find(2);
            }
            switch (c[0]) {
                case 1:
                    asked = rows[r][c[2]];
                    rows[r][c[2]] = c[3];
                    return 1;
                case 2: return ask(rows[r][c[2]], 1);
                case 3:
                    rows[r] = null;
                    return 1;
                case 4: return copied(rows[r], c[2], rows[c[3]], c[4], c[5]);
                case 5: return rows[r].length == 0 ? find(4)
                    : ask((int) (Arrays.stream(rows[r]).asLongStream().sum() / rows[r].length), 1);
                default:
                    int was = texts[r][c[2]];
                    texts[r][c[2]] = (byte) c[3];
                    return 1000 + was;
            }
        }

        long copied(int[] from, int i, int[] to, int j, int n) {
            if (i < 0 || j < 0 || (long) i + n > from.length || (long) j + n > to.length) {
                return find(2);
            }
            int[] ahead = from.clone();
            for (int k = 0; k < n; k++) {
                to[j + k] = ahead[i + k];
            }
            return 1;
        }

        /** The FAULT: how far the longest beginning goes that some TOWN has, but for what the document says of pairs. */
        int fault(byte[] text) {
            StringBuilder s = new StringBuilder();
            for (byte b : text) {
                s.append((char) (b & 255));
            }
            String item = "[stcpmb][1-9][01][0-9]";
            if (s.toString().matches(" *w([0-5][0-9]|60)[0-3] *(" + item + " *){1,6}")) {
                return NONE;
            }
            for (int n = text.length; n > 0; n--) {
                if (begins(s.substring(0, n))) {
                    java.util.regex.Matcher pair =
                        java.util.regex.Pattern.compile(" *w([0-9][0-9]).*").matcher(s.substring(0, n));
                    boolean wrongPair = pair.matches() && Integer.parseInt(pair.group(1)) > 60;
                    return wrongPair ? pair.start(1) : n;
                }
            }
            return 0;
        }

        boolean begins(String s) {
            String part = "([stcpmb]([1-9][01]?)?)?";
            String item = "([stcpmb][1-9][01][0-9] *)";
            return s.matches(" *(w([0-9][0-9]?)?)?")
                || s.matches(" *w([0-5][0-9]|60)[0-3] *" + item + "{0,5}" + part)
                || s.matches(" *w([0-5][0-9]|60)[0-3] *" + item + "{6}");
        }

        long readTown(byte[] text) {
            if (fault(text) != NONE) {
                return STATE;
            }
            String s = new String(text, java.nio.charset.StandardCharsets.ISO_8859_1).replace(" ", "");
            Stand first = new Stand();
            first.wound = Integer.parseInt(s.substring(1, 3));
            first.frost = s.charAt(3) - '0';
            for (int p = 4; p < s.length(); p += 4) {
                Guest g = new Guest();
                g.letter = s.charAt(p);
                g.strength = s.charAt(p + 1) - '0';
                g.gate = s.charAt(p + 2) - '0';
                g.bread = s.charAt(p + 3) - '0';
                first.guests.add(g);
            }
            stands = new ArrayList<>();
            go(first);
            Arrays.fill(kept, null);
            return first.guests.size();
        }

        int trait(int i, int what) {
            Guest g = now.guests.get(i);
            int[] traits = {"stcpmb".indexOf(g.letter), g.strength, g.gate, g.bread, g.in ? 1 : 0, now.turns(i)};
            return traits[what];
        }

        long mark(int i, int kind) {
            Guest g = now.guests.get(i);
            boolean[] is = {true, g.isStrong(), g.isChild(), g.letter == 'p', g.letter == 'm', g.letter == 'b'};
            if (!is[kind]) {
                return find(3);
            }
            int more = 1;
            while ((g.strength + more) / 4 == g.strength / 4) {
                more++;
            }
            int pilgrims = 0;
            int others = 0;
            for (Guest o : now.guests) {
                pilgrims += o != g && o.letter == 'p' ? 1 : 0;
                others += o != g && o.in ? 1 : 0;
            }
            int[] marks = {0, g.strength / 2, more, pilgrims, now.wound > 40 ? now.wound - 40 : 0, others};
            return marks[kind];
        }

        long towns(int[] c) {
            switch (c[0]) {
                case 8: return out(c[1], 4) ? BAD : texts[c[1]] == null ? find(1) : fault(texts[c[1]]);
                case 9: return out(c[1], 4) ? BAD : texts[c[1]] == null ? find(1) : readTown(texts[c[1]]);
                case 10: return none(c[1]) || out(c[2], 6) ? BAD : ask(trait(c[1], c[2]), 1);
                case 11: return none(c[1]) || c[2] < 1 || c[2] > 5 ? BAD : mark(c[1], c[2]);
                case 12:
                    if (none(c[1])) {
                        return BAD;
                    }
                    if (deeds() > 0) {
                        return STATE;
                    }
                    Guest g = now.guests.get(c[1]);
                    g.gate = 1 - g.gate;
                    return 1 - g.gate;
                case 17:
                    if (out(c[1], deeds() + 1)) {
                        return BAD;
                    }
                    int n = deeds() - c[1];
                    if (now != null) {
                        stands = new ArrayList<>(stands.subList(0, c[1] + 1));
                        now = stands.get(c[1]);
                    }
                    return n;
                case 18:
                    if (out(c[1], 3) || now == null) {
                        return out(c[1], 3) ? BAD : STATE;
                    }
                    kept[c[1]] = new Kept(stands);
                    return deeds();
                case 19:
                    if (out(c[1], 3) || kept[c[1]] == null) {
                        return out(c[1], 3) ? BAD : find(1);
                    }
                    stands = new Kept(kept[c[1]].stands).stands;
                    now = stands.get(stands.size() - 1);
                    return deeds();
                default: return deed(c);
            }
        }

        long deed(int[] c) {
            if ((c[0] == 13 || c[0] == 14) && none(c[1]) || c[0] == 16 && out(c[1], 4)) {
                return BAD;
            }
            if (now == null || c[0] == 13 && now.guests.get(c[1]).in || c[0] == 14 && !now.guests.get(c[1]).in
                || c[0] == 16 && now.frost == c[1]) {
                return STATE;
            }
            if (deeds() >= 40) {
                return FULL;
            }
            switch (c[0]) {
                case 13:
                    go(now.in(c[1]));
                    return now.wound;
                case 14:
                    go(now.out(c[1]));
                    return Integer.bitCount(now.bitsIn());
                case 15:
                    go(now.hour());
                    return ask(now.clock, now.struck);
                default:
                    int was = now.frost;
                    go(now.twin());
                    now.frost = c[1];
                    return was;
            }
        }

        List<Integer> free() {
            List<Integer> free = new ArrayList<>();
            for (int i = 0; i < now.guests.size(); i++) {
                if (!now.guests.get(i).in) {
                    free.add(i);
                }
            }
            return free;
        }

        /** All sets of those not IN by rising numbers. */
        List<Integer> sets() {
            List<Integer> sets = new ArrayList<>();
            for (int bits = 0; bits < 64; bits++) {
                int all = 0;
                for (int i : free()) {
                    all |= 1 << i;
                }
                if ((bits | all) == all) {
                    sets.add(bits);
                }
            }
            return sets;
        }

        /** All LETTINGS of n HOURS as they go: figures of a number to the base 7. */
        List<int[]> lettings(int n) {
            List<int[]> all = new ArrayList<>();
            int end = (int) Math.pow(7, n);
            for (int code = 0; code < end; code++) {
                int[] letting = new int[n];
                int rest = code;
                for (int h = n - 1; h >= 0; h--) {
                    letting[h] = rest % 7 == 0 ? NONE : rest % 7 - 1;
                    rest /= 7;
                }
                if (fair(letting, true)) {
                    all.add(letting);
                }
            }
            return all;
        }

        boolean fair(int[] guests, boolean nobody) {
            List<Integer> free = free();
            for (int g : guests) {
                if (!(nobody && g == NONE) && !free.remove((Integer) g)) {
                    return false;
                }
            }
            return true;
        }

        int eaten(int[] guests) {
            int sum = 0;
            for (int g : guests) {
                sum += g == NONE ? 0 : now.guests.get(g).bread;
            }
            return sum;
        }

        Stand behind(int[] letting) {
            Stand s = now;
            for (int g : letting) {
                s = (g == NONE ? s : s.in(g)).hour();
            }
            return s;
        }

        long guestsOf(int[] c) {
            int[] row = rows[c[1]];
            if (row.length > (c[0] == 20 ? 6 : 5)) {
                return find(5);
            }
            if (!fair(row, c[0] == 21)) {
                return find(3);
            }
            if (c[0] == 21) {
                Stand s = behind(row);
                return ask(s.clock, s.wound);
            }
            Stand s = now;
            for (int g : row) {
                s = s.in(g);
            }
            return ask(eaten(row), s.wound);
        }

        long book(int[] row) {
            if (row.length % 2 == 1) {
                return find(5);
            }
            for (int k = 0; k < row.length; k += 2) {
                if (none(row[k])) {
                    return find(3);
                }
            }
            Stand s = now;
            for (int k = 0; k < row.length; k += 2) {
                if (s.guests.get(row[k]).in || s.in(row[k]).wound != row[k + 1]) {
                    return k / 2;
                }
                s = s.in(row[k]);
            }
            return NONE;
        }

        void lineUps(List<Integer> left, List<Integer> done, List<List<Integer>> all) {
            if (left.isEmpty()) {
                all.add(new ArrayList<>(done));
            }
            for (Integer i : left) {
                List<Integer> rest = new ArrayList<>(left);
                rest.remove(i);
                done.add(i);
                lineUps(rest, done, all);
                done.remove(done.size() - 1);
            }
        }

        long asides(int[] c) {
            boolean bad = c[0] == 23 || c[0] == 24 ? false : c[0] <= 25 ? out(c[1], 6) : c[0] == 29 ? out(c[1], 11)
                : out(c[1], 6) || c[0] < 28 && out(c[2], 12) || c[0] == 27 && out(c[3], 6);
            if (bad || now == null) {
                return bad ? BAD : STATE;
            }
            if (c[0] <= 22 && rows[c[1]] == null) {
                return find(1);
            }
            switch (c[0]) {
                case 20: case 21: return guestsOf(c);
                case 22: return book(rows[c[1]]);
                case 23: return lastOnes();
                case 24: return most();
                case 25: return order(c[1]);
                case 29: return fits(c[1]);
                default: return lettingsOf(c);
            }
        }

        long lastOnes() {
            int struck = 0;
            int h = 0;
            for (Stand s = now; s.wound > 0; h++) {
                s = s.hour();
                struck = s.struck;
            }
            return ask(struck, h);
        }

        long most() {
            int best = -1;
            for (int bits : sets()) {
                if (now.set(bits).wound > best) {
                    best = now.set(bits).wound;
                    asked = bits;
                }
            }
            return best;
        }

        long order(int r) {
            List<List<Integer>> all = new ArrayList<>();
            lineUps(free(), new ArrayList<>(), all);
            int best = -1;
            for (List<Integer> line : all) {
                Stand s = now;
                for (int i : line) {
                    s = s.in(i);
                }
                if (s.wound > best) {
                    best = s.wound;
                    rows[r] = line.stream().mapToInt(Integer::intValue).toArray();
                }
            }
            return best;
        }

        long lettingsOf(int[] c) {
            int n = 0;
            int least = NONE;
            int[] first = null;
            int longest = -1;
            int fewest = 0;
            for (int[] l : lettings(c[1])) {
                Stand s = behind(l);
                int went = (s.clock - now.clock + 12) % 12;
                int guests = Integer.bitCount(s.bitsIn()) - Integer.bitCount(now.bitsIn());
                if (went > longest || went == longest && guests < fewest) {
                    longest = went;
                    fewest = guests;
                }
                if (c[0] != 28 && s.clock == c[2]) {
                    n++;
                    if (first == null || eaten(l) < least) {
                        least = eaten(l);
                        first = l;
                    }
                }
            }
            if (c[0] == 28) {
                return ask(fewest, longest);
            }
            if (c[0] == 26) {
                tell(n, 1);
                return ask(least, 1);
            }
            if (first != null) {
                rows[c[3]] = first;
            }
            return least;
        }

        List<Integer> fitting(int v) {
            List<Integer> sets = sets();
            sets.removeIf(bits -> now.set(bits).hour().struck != v);
            return sets;
        }

        long fits(int v) {
            List<Integer> sets = fitting(v);
            tell(sets.size(), 1);
            return ask(sets.isEmpty() ? NONE : sets.get(0), 1);
        }

        long beard(int which, int v) {
            List<Integer> sets = fitting(v);
            if (sets.isEmpty()) {
                return find(4);
            }
            int sure = 0;
            int never = 0;
            int best = NONE;
            int least = 99;
            for (int i : free()) {
                int with = (int) sets.stream().filter(b -> (b >> i & 1) == 1).count();
                sure += with == sets.size() ? 1 << i : 0;
                never += with == 0 ? 1 << i : 0;
                if (Math.max(with, sets.size() - with) < least) {
                    least = Math.max(with, sets.size() - with);
                    best = i;
                }
            }
            if (which == 30) {
                return ask(never, sure);
            }
            if (which == 31) {
                return best == NONE ? NONE : ask(least, best);
            }
            return ask(sets.stream().mapToInt(Integer::bitCount).max().getAsInt(),
                sets.stream().mapToInt(Integer::bitCount).min().getAsInt());
        }

        int duel(Stand s, int left, boolean much) {
            if (left == 0) {
                return s.wound;
            }
            List<Integer> ends = new ArrayList<>();
            ends.add(duel(s, left - 1, !much));
            for (int i = 0; i < s.guests.size(); i++) {
                if (!s.guests.get(i).in) {
                    ends.add(duel(s.in(i), left - 1, !much));
                }
            }
            return much ? java.util.Collections.max(ends) : java.util.Collections.min(ends);
        }

        long riddles(int[] c) {
            int[] bounds = {11, 11, 11, 5, 2, 12, 13, 13, 21};
            boolean bad = out(c[1], bounds[c[0] - 30]) || c[0] == 36 && out(c[2], 13)
                || c[0] == 38 && (c[1] == 0 || c[2] < 1 || c[2] == Integer.MAX_VALUE);
            if (bad || now == null) {
                return bad ? BAD : STATE;
            }
            switch (c[0]) {
                case 33: return duel(now, c[1], true);
                case 34: return shut(c[1]);
                case 35: return meets(c[1]);
                case 36: return chance(c[1], c[2]);
                case 37: return chance(-1, c[1]);
                case 38: return lots(c[1], c[2]);
                default: return beard(c[0], c[1]);
            }
        }

        long shut(int gate) {
            Stand s = now;
            for (int i : free()) {
                s = now.guests.get(i).gate == gate ? s : s.in(i);
            }
            return s.wound;
        }

        long meets(int c) {
            Stand s = now;
            int other = c;
            for (int h = 0; h <= 40; h++) {
                if (s.clock == other) {
                    return ask(other, h);
                }
                s = s.hour();
                other = (other + 1) % 12;
            }
            return NONE;
        }

        /** Chances of n HOURS; the mean of what is WOUND, if n is -1. */
        long chance(int n, int p) {
            BigInteger up = BigInteger.ZERO;
            for (int bits : sets()) {
                int came = Integer.bitCount(bits);
                BigInteger weight = BigInteger.valueOf(p).pow(came)
                    .multiply(BigInteger.valueOf(12 - p).pow(free().size() - came));
                Stand s = now.set(bits);
                long value = n < 0 ? s.wound : s.lasts() >= n ? 1 : 0;
                up = up.add(weight.multiply(BigInteger.valueOf(value)));
            }
            tell(up.longValueExact(), BigInteger.valueOf(12).pow(free().size()).longValueExact());
            return 1;
        }

        long lots(int n, int seed) {
            if (deeds() + n > 40) {
                return FULL;
            }
            BigInteger lot = BigInteger.valueOf(seed);
            for (int k = 0; k < n; k++) {
                lot = lot.multiply(BigInteger.valueOf(48271)).mod(BigInteger.valueOf(2147483647));
                int i = (int) (lot.longValue() / 8 % now.guests.size());
                boolean hour = lot.longValue() % 3 == 0;
                go(hour ? now.hour() : now.guests.get(i).in ? now.out(i) : now.in(i));
            }
            return now.wound;
        }

        long counts(int[] c) {
            if (c[0] == 39) {
                return out(c[1], 11) ? BAD : allCounts()[c[1]];
            }
            return c[1] < 1 || c[1] > 5 ? BAD : findings[c[1]];
        }

        int[] allCounts() {
            int[] counts = new int[11];
            if (now != null) {
                int strong = (int) now.guests.stream().filter(Guest::isStrong).count();
                counts = new int[] {now.guests.size(), now.wound, now.clock, now.hours, deeds(), now.frost,
                    now.bitsIn(), strong, 0, 0, 0};
            }
            counts[8] = (int) Arrays.stream(rows).filter(r -> r != null).count();
            counts[9] = (int) Arrays.stream(texts).filter(t -> t != null).count();
            counts[10] = (int) Arrays.stream(kept).filter(k -> k != null).count();
            return counts;
        }

        long digest() {
            List<Long> values = new ArrayList<>();
            for (int v : allCounts()) {
                values.add((long) v);
            }
            for (int i = 0; now != null && i < now.guests.size(); i++) {
                for (int what = 0; what < 6; what++) {
                    values.add((long) trait(i, what));
                }
            }
            for (Kept k : kept) {
                values.add(k == null ? -1L : k.stands.size() - 1L);
            }
            for (int[] row : rows) {
                values.add(row == null ? -1L : row.length);
                for (int i = 0; row != null && i < row.length; i++) {
                    values.add((long) row[i]);
                }
            }
            for (byte[] text : texts) {
                values.add(text == null ? -1L : text.length);
                for (int i = 0; text != null && i < text.length; i++) {
                    values.add((long) text[i]);
                }
            }
            return values.stream().reduce(17L, (h, v) -> 31 * h + v);
        }
    }
}
