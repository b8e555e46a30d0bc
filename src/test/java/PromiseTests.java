/** Each promise by its number, with answers worked out by hand from the document. */
public final class PromiseTests {
    private static final int BAD = -1, FULL = -2, FINDING = -3, STATE = -4, NONE = -9;
    private static int wrong = 0;
    private static int asked = 0;

    private static void due(int promise, String call, long got, long want) {
        asked++;
        if (got != want) {
            wrong++;
            System.out.println("promise " + promise + ": " + call + " answered " + got + ", due is " + want);
        }
    }

    /** A refusal by a FINDING: which one, and that it was counted once. */
    private static void finds(int promise, String call, StrangersWind x, int before, int got, int finding) {
        due(promise, call, got, FINDING);
        due(promise, call + ": finding()", x.finding(), finding);
        due(promise, call + ": findings()", x.findings(finding), before + 1);
    }

    private static void write(StrangersWind x, int t, String text) {
        x.text(t, text.length());
        for (int i = 0; i < text.length(); i++) {
            x.put(t, i, text.charAt(i));
        }
    }

    private static StrangersWind townOf(String text) {
        StrangersWind x = new StrangersWind();
        write(x, 0, text);
        if (x.town(0) < 0) {
            due(11, "town of '" + text + "'", x.town(0), 1);
        }
        return x;
    }

    private static void fill(StrangersWind x, int r, int... values) {
        x.row(r, values.length);
        for (int i = 0; i < values.length; i++) {
            x.lay(r, i, values[i]);
        }
    }

    private static void holds(int promise, StrangersWind x, int r, int... values) {
        for (int i = 0; i < values.length; i++) {
            due(promise, "row " + r + " place " + i, x.at(r, i), 1);
            due(promise, "row " + r + " place " + i + " asked()", x.asked(), values[i]);
        }
        due(promise, "row " + r + " ends", x.at(r, values.length), FINDING);
    }

    private static void told(int promise, StrangersWind x, long upper, long lower) {
        due(promise, "upper()", x.upper(), upper);
        due(promise, "lower()", x.lower(), lower);
    }

    public static void main(String[] args) {
        newObject();
        rows();
        copies();
        means();
        texts();
        faults();
        faultsAtFigures();
        towns();
        strangers();
        turns();
        marks();
        gates();
        lets();
        springs();
        leaves();
        hours();
        frosts();
        undone();
        kept();
        lasting();
        windings();
        mosts();
        orders();
        lettings();
        goings();
        behinds();
        beards();
        beardsRefused();
        duels();
        shuts();
        meetings();
        books();
        chances();
        means12();
        lotsDrawn();
        asides();
        fractions();
        counts();
        findingsCounted();
        digests();
        noTown();
        fullBooks();
        lastDeeds();
        System.out.println(wrong == 0 ? asked + " answers are as due" : wrong + " answers are not as due");
        if (wrong != 0) {
            System.exit(1);
        }
    }

    private static void newObject() {
        StrangersWind x = new StrangersWind();
        for (int what = 0; what <= 10; what++) {
            due(1, "count(" + what + ")", x.count(what), 0);
        }
        due(1, "asked()", x.asked(), 0);
        told(1, x, 0, 1);
        due(1, "finding()", x.finding(), 0);
        due(1, "at(0, 0)", x.at(0, 0), FINDING);
        due(1, "put(0, 0, 0)", x.put(0, 0, 0), FINDING);
        due(1, "on(0)", x.on(0), FINDING);
        due(1, "hour()", x.hour(), STATE);
    }

    private static void rows() {
        StrangersWind x = new StrangersWind();
        due(2, "row(0, 40)", x.row(0, 40), 40);
        due(2, "row(5, 0)", x.row(5, 0), 0);
        due(2, "count(8)", x.count(8), 2);
        due(2, "row(0, 41)", x.row(0, 41), BAD);
        due(2, "row(-1, 1)", x.row(-1, 1), BAD);
        due(2, "row(6, -1)", x.row(6, -1), BAD);
        finds(2, "row(1, -1)", x, 0, x.row(1, -1), 5);
        due(2, "count(8)", x.count(8), 2);

        due(3, "lay(0, 39, 7)", x.lay(0, 39, 7), 1);
        due(3, "asked()", x.asked(), 0);
        due(3, "lay(0, 39, -2147483648)", x.lay(0, 39, Integer.MIN_VALUE), 1);
        due(3, "asked()", x.asked(), 7);
        due(4, "at(0, 39)", x.at(0, 39), 1);
        due(4, "asked()", x.asked(), Integer.MIN_VALUE);
        due(3, "lay(6, 0, 1)", x.lay(6, 0, 1), BAD);
        due(3, "lay(-1, 99, 1)", x.lay(-1, 99, 1), BAD);
        finds(3, "lay(1, 99, 1)", x, 0, x.lay(1, 99, 1), 1);
        finds(3, "lay(0, 40, 1)", x, 0, x.lay(0, 40, 1), 2);
        finds(3, "lay(0, -1, 1)", x, 1, x.lay(0, -1, 1), 2);
        due(4, "at(6, 0)", x.at(6, 0), BAD);
        finds(4, "at(1, 0)", x, 1, x.at(1, 0), 1);
        finds(4, "at(5, 0)", x, 2, x.at(5, 0), 2);
        due(4, "asked() stays", x.asked(), Integer.MIN_VALUE);

        due(2, "row(0, 2) anew", x.row(0, 2), 2);
        due(2, "row(0, 40) anew", x.row(0, 40), 40);
        x.at(0, 39);
        due(2, "place 39 is 0 anew", x.asked(), 0);

        due(5, "tear(0)", x.tear(0), 1);
        finds(5, "tear(0)", x, 2, x.tear(0), 1);
        due(5, "tear(-1)", x.tear(-1), BAD);
        due(5, "tear(6)", x.tear(6), BAD);
        due(5, "count(8)", x.count(8), 1);
        due(5, "tear(5), of no places", x.tear(5), 1);
        due(5, "digest() as of a new object", x.digest(), new StrangersWind().digest());
    }

    private static void copies() {
        StrangersWind x = new StrangersWind();
        fill(x, 0, 1, 2, 3, 4, 5);
        due(6, "copy(0, 0, 0, 1, 4)", x.copy(0, 0, 0, 1, 4), 1);
        holds(6, x, 0, 1, 1, 2, 3, 4);
        due(6, "copy(0, 2, 0, 0, 3)", x.copy(0, 2, 0, 0, 3), 1);
        holds(6, x, 0, 2, 3, 4, 3, 4);
        fill(x, 1, 9, 9, 9);
        due(6, "copy(0, 1, 1, 1, 2)", x.copy(0, 1, 1, 1, 2), 1);
        holds(6, x, 1, 9, 3, 4);
        due(6, "copy(0, 5, 1, 3, 0)", x.copy(0, 5, 1, 3, 0), 1);
        due(6, "copy(6, 0, 1, 0, -1)", x.copy(6, 0, 1, 0, -1), BAD);
        due(6, "copy(0, 0, -1, 0, 1)", x.copy(0, 0, -1, 0, 1), BAD);
        int size = x.findings(5);
        finds(6, "copy(0, 0, 4, 0, -1)", x, size, x.copy(0, 0, 4, 0, -1), 5);
        int nothing = x.findings(1);
        finds(6, "copy(0, 9, 4, 0, 1)", x, nothing, x.copy(0, 9, 4, 0, 1), 1);
        finds(6, "copy(4, 0, 0, 0, 1)", x, nothing + 1, x.copy(4, 0, 0, 0, 1), 1);
        int beyond = x.findings(2);
        finds(6, "copy(0, 6, 1, 0, 0)", x, beyond, x.copy(0, 6, 1, 0, 0), 2);
        finds(6, "copy(0, 4, 1, 0, 2)", x, beyond + 1, x.copy(0, 4, 1, 0, 2), 2);
        finds(6, "copy(0, 0, 1, 2, 2)", x, beyond + 2, x.copy(0, 0, 1, 2, 2), 2);
        finds(6, "copy(0, -1, 1, 0, 1)", x, beyond + 3, x.copy(0, -1, 1, 0, 1), 2);
        finds(6, "copy(0, big, 1, 0, big)", x, beyond + 4,
            x.copy(0, Integer.MAX_VALUE, 1, 0, Integer.MAX_VALUE), 2);
        holds(6, x, 1, 9, 3, 4);
        x.row(2, 0);
        due(6, "copy(2, 0, 1, 0, 0)", x.copy(2, 0, 1, 0, 0), 1);
        due(6, "copy(1, 0, 2, 0, 0)", x.copy(1, 0, 2, 0, 0), 1);
        finds(6, "copy(1, 0, 2, 0, 1)", x, x.findings(2), x.copy(1, 0, 2, 0, 1), 2);
    }

    private static void means() {
        StrangersWind x = new StrangersWind();
        fill(x, 0, 3, 4, 4);
        due(7, "mean(0)", x.mean(0), 1);
        due(7, "asked()", x.asked(), 3);
        fill(x, 0, -3, -4, -4);
        x.mean(0);
        due(7, "asked() below 0, cut", x.asked(), -3);
        fill(x, 0, Integer.MAX_VALUE, Integer.MAX_VALUE, Integer.MAX_VALUE);
        x.mean(0);
        due(7, "asked() of big ones", x.asked(), Integer.MAX_VALUE);
        due(7, "mean(6)", x.mean(6), BAD);
        finds(7, "mean(1)", x, 0, x.mean(1), 1);
        x.row(1, 0);
        finds(7, "mean(1)", x, 0, x.mean(1), 4);
        due(7, "asked() stays", x.asked(), Integer.MAX_VALUE);
        x.row(1, 40);
        x.lay(1, 39, 80);
        due(7, "mean of 40", x.mean(1), 1);
        due(7, "asked()", x.asked(), 2);
    }

    private static void texts() {
        StrangersWind x = new StrangersWind();
        due(8, "text(3, 60)", x.text(3, 60), 60);
        due(8, "text(0, 0)", x.text(0, 0), 0);
        due(8, "text(0, 61)", x.text(0, 61), BAD);
        due(8, "text(4, 1)", x.text(4, 1), BAD);
        due(8, "text(-1, -1)", x.text(-1, -1), BAD);
        finds(8, "text(1, -1)", x, 0, x.text(1, -1), 5);
        due(8, "count(9)", x.count(9), 2);

        due(9, "put(3, 59, 127)", x.put(3, 59, 127), 1032);
        due(9, "put(3, 59, 128)", x.put(3, 59, 128), 1127);
        due(9, "put(3, 59, 511)", x.put(3, 59, 511), 872);
        due(9, "put(3, 59, 0)", x.put(3, 59, 0), 999);
        due(9, "put(3, 59, 65)", x.put(3, 59, 65), 1000);
        due(8, "text(3, 60) anew", x.text(3, 60), 60);
        due(8, "blank anew", x.put(3, 59, 1), 1032);
        due(9, "put(4, 0, 0)", x.put(4, 0, 0), BAD);
        due(9, "put(-1, 0, 0)", x.put(-1, 0, 0), BAD);
        finds(9, "put(1, 0, 0)", x, 0, x.put(1, 0, 0), 1);
        finds(9, "put(3, 60, 0)", x, 0, x.put(3, 60, 0), 2);
        finds(9, "put(3, -1, 0)", x, 1, x.put(3, -1, 0), 2);
        finds(9, "put(0, 0, 0)", x, 2, x.put(0, 0, 0), 2);
    }

    private static void faulty(String text, int want) {
        StrangersWind x = new StrangersWind();
        write(x, 2, text);
        due(10, "fault of '" + text + "'", x.fault(2), want);
        due(11, "town of '" + text + "'", x.town(2) > 0 ? 1 : x.town(2), want == NONE ? 1 : STATE);
    }

    private static void faults() {
        faulty("", 0);
        faulty("    ", 4);
        faulty("  w000   s100  ", NONE);
        faulty("w000s100t200c300p400m500b600", NONE);
        faulty("w603 b919", NONE);
        faulty("w613 b919", 1);
        faulty("w990 b919", 1);
        faulty("w000", 4);
        faulty("w000   ", 7);
        faulty("W000 s100", 0);
        faulty("s100 w000", 0);
        faulty("w000 w000", 5);
        faulty("w000 x100", 5);
        faulty("w000 S100", 5);
        faulty("w000 s100 s100 s100 s100 s100 s100 ", NONE);
        faulty("w000 s100 s100 s100 s100 s100 s100 s100", 35);
        faulty("w000 s100 s100 s100 s100 s100 s100  x", 36);
        faulty("w000 s100 s100 s100 s100 s100 s100 s", 35);
        faulty("w000 s100\t", 9);
        faulty("w000 s100" + (char) (256 - 32 + 1), 9);
        StrangersWind x = new StrangersWind();
        due(10, "fault(4)", x.fault(4), BAD);
        due(10, "fault(-1)", x.fault(-1), BAD);
        finds(10, "fault(1)", x, 0, x.fault(1), 1);
    }

    private static void faultsAtFigures() {
        faulty("w", 1);
        faulty("w6", 2);
        faulty("w7", 2);
        faulty("w7x", 2);
        faulty("wx0", 1);
        faulty("w 00", 1);
        faulty("w0 0", 2);
        faulty("w00 0", 3);
        faulty("w60", 3);
        faulty("w604", 3);
        faulty("w60x", 3);
        faulty("w000s", 5);
        faulty("w000s0", 5);
        faulty("w000s:", 5);
        faulty("w000s 100", 5);
        faulty("w000s1", 6);
        faulty("w000s12", 6);
        faulty("w000s10", 7);
        faulty("w000s10/", 7);
        faulty("w000s10:", 7);
        faulty("w000s1 ", 6);
        faulty("w000s100s", 9);
        String blanks = " ".repeat(60);
        faulty(blanks, 60);
        faulty(blanks.substring(1) + "w", 60);
        faulty(blanks.substring(4) + "w603", 60);
        faulty(blanks.substring(5) + "w603s", 60);
        faulty(blanks.substring(8) + "w603b911", NONE);
    }

    private static void towns() {
        StrangersWind x = new StrangersWind();
        due(11, "town(4)", x.town(4), BAD);
        due(11, "town(-1)", x.town(-1), BAD);
        finds(11, "town(0)", x, 0, x.town(0), 1);
        write(x, 0, "w252 s100 t200");
        write(x, 1, "w000 c314");
        write(x, 2, "w000 x314");
        due(11, "town(0)", x.town(0), 2);
        due(11, "WOUND", x.count(1), 25);
        due(11, "FROST", x.count(5), 2);
        x.let(0);
        x.hour();
        x.frost(0);
        x.keep(0);
        x.keep(2);
        due(11, "town(2)", x.town(2), STATE);
        due(11, "DEEDS stay", x.count(4), 3);
        due(11, "kept TOWNS stay", x.count(10), 2);
        due(11, "town(1)", x.town(1), 1);
        int[] counts = {1, 0, 0, 0, 0, 0, 0, 0, 0, 3, 0};
        for (int what = 0; what <= 10; what++) {
            due(11, "count(" + what + ") anew", x.count(what), counts[what]);
        }
        due(11, "on(0): kept TOWNS go", x.on(0), FINDING);
        due(11, "town(0) anew", x.town(0), 2);
        due(11, "WOUND anew", x.count(1), 25);
        x.put(0, 1, '9');
        due(11, "the TOWN is no part of the TEXT", x.count(1), 25);
    }

    private static void trait(StrangersWind x, int promise, int i, int what, int want) {
        due(promise, "stranger(" + i + ", " + what + ")", x.stranger(i, what), 1);
        due(promise, "stranger(" + i + ", " + what + ") asked()", x.asked(), want);
    }

    private static void strangers() {
        StrangersWind x = townOf("w200 s106 t217 c308 p419 m500 b611");
        int[][] want = {{0, 1, 0, 6, 0, 1}, {1, 2, 1, 7, 0, 3}, {2, 3, 0, 8, 0, 1},
            {3, 4, 1, 9, 0, 4}, {4, 5, 0, 0, 0, 7}, {5, 6, 1, 1, 0, 2}};
        for (int i = 0; i < 6; i++) {
            for (int what = 0; what < 6; what++) {
                trait(x, 12, i, what, want[i][what]);
            }
        }
        x.let(3);
        trait(x, 12, 3, 4, 1);
        trait(x, 12, 2, 4, 0);
        due(12, "stranger(6, 0)", x.stranger(6, 0), BAD);
        due(12, "stranger(-1, 0)", x.stranger(-1, 0), BAD);
        due(12, "stranger(0, 6)", x.stranger(0, 6), BAD);
        due(12, "stranger(0, -1)", x.stranger(0, -1), BAD);
        due(12, "asked() stays", x.asked(), 0);
    }

    private static void turns() {
        StrangersWind x = townOf("w200 s706 t707 p708 p709 m700 b700");
        x.let(0);
        x.let(1);
        trait(x, 12, 5, 5, 4);
        trait(x, 12, 4, 5, 10);
        due(15, "let(5)", x.let(5), 41);
        trait(x, 12, 5, 5, 4);
        trait(x, 12, 4, 5, 0);
        trait(x, 12, 2, 5, 7);
        x.let(2);
        trait(x, 12, 2, 5, 7);
        trait(x, 12, 3, 5, 8);
        trait(x, 12, 5, 5, 5);
        x.leave(2);
        trait(x, 12, 3, 5, 7);
        StrangersWind y = townOf("w400 m500 b100 b400 b800");
        trait(y, 12, 0, 5, 7);
        trait(y, 12, 1, 5, 1);
        trait(y, 12, 2, 5, 2);
        trait(y, 12, 3, 5, 3);
        y.let(0);
        trait(y, 12, 1, 5, 2);
        trait(y, 12, 0, 5, 0);
    }

    private static void marks() {
        StrangersWind x = townOf("w383 s900 t900 c400 p100 m700 b500");
        due(13, "mark(1, 1)", x.mark(1, 1), 4);
        due(13, "mark(4, 1)", x.mark(4, 1), 3);
        due(13, "mark(2, 2)", x.mark(2, 2), 4);
        due(13, "mark(5, 2)", x.mark(5, 2), 3);
        due(13, "mark(3, 3)", x.mark(3, 3), 0);
        due(13, "mark(4, 4)", x.mark(4, 4), 0);
        due(13, "mark(5, 5)", x.mark(5, 5), 0);
        x.let(0);
        due(13, "mark(4, 4) at 47", x.mark(4, 4), 7);
        due(13, "mark(5, 5), one IN", x.mark(5, 5), 1);
        x.let(5);
        due(13, "mark(5, 5), himself too", x.mark(5, 5), 1);
        finds(13, "mark(0, 1)", x, 0, x.mark(0, 1), 3);
        finds(13, "mark(1, 4)", x, 1, x.mark(1, 4), 3);
        finds(13, "mark(2, 5)", x, 2, x.mark(2, 5), 3);
        finds(13, "mark(4, 2)", x, 3, x.mark(4, 2), 3);
        finds(13, "mark(3, 5)", x, 4, x.mark(3, 5), 3);
        due(13, "mark(0, 0)", x.mark(0, 0), BAD);
        due(13, "mark(0, 6)", x.mark(0, 6), BAD);
        due(13, "mark(6, 1)", x.mark(6, 1), BAD);
        due(13, "mark(-1, 1)", x.mark(-1, 1), BAD);
        StrangersWind y = townOf("w400 p100 p200 p300 m100");
        y.let(1);
        due(13, "PILGRIMS, IN or not", y.mark(0, 3), 2);
        StrangersWind z = townOf("w400 m100");
        due(13, "SMUGGLER at 40", z.mark(0, 4), 0);
    }

    private static void gates() {
        StrangersWind x = townOf("w200 s500 s710");
        due(14, "gate(0)", x.gate(0), 0);
        due(14, "gate(0)", x.gate(0), 1);
        due(14, "gate(1)", x.gate(1), 1);
        due(14, "gate(2)", x.gate(2), BAD);
        due(14, "gate(-1)", x.gate(-1), BAD);
        trait(x, 14, 1, 2, 0);
        due(14, "let(1) by GATE 0", x.let(1), 27);
        due(14, "gate(0)", x.gate(0), STATE);
        x.undo(0);
        due(14, "gate(1) stays undone", x.gate(1), 0);
        due(14, "let(1) by GATE 1", x.let(1), 13);
        x.undo(0);
        x.town(0);
        trait(x, 14, 0, 2, 0);
        trait(x, 14, 1, 2, 1);
    }

    private static void lets() {
        StrangersWind x = townOf("w200 s706 t707 c708 p709 m700 b700");
        due(15, "let(0)", x.let(0), 27);
        due(15, "let(1)", x.let(1), 37);
        due(15, "let(5)", x.let(5), 41);
        due(15, "let(2)", x.let(2), 43);
        due(15, "let(3)", x.let(3), 49);
        due(15, "let(4)", x.let(4), 49);
        due(15, "let(4) IN", x.let(4), STATE);
        due(15, "let(6)", x.let(6), BAD);
        due(15, "let(-1)", x.let(-1), BAD);
        due(15, "count(6)", x.count(6), 63);
        due(15, "count(4)", x.count(4), 6);
    }

    private static void springs() {
        StrangersWind x = townOf("w600 s900 s110 m900");
        due(15, "forgiven by GATE 1, too", x.let(1), 58);
        due(15, "forgiven, though none is given", x.let(2), 57);
        x.undo(0);
        int[] want = {67, 73, 78, 83, 87, 91, 94, 94};
        for (int w : want) {
            due(15, "let(0), 99 at most", x.let(0), w);
            x.leave(0);
        }
        StrangersWind y = townOf("w050 s910 s500");
        due(15, "let(0), 0 at least", y.let(0), 0);
        due(15, "let(1)", y.let(1), 5);
        StrangersWind z = townOf("w410 s900 s800");
        due(15, "let(0) to 50", z.let(0), 49);
        z.undo(0);
        due(15, "let(1) to 49", z.let(1), 49);
    }

    private static void leaves() {
        StrangersWind x = townOf("w200 s700 p700");
        due(16, "leave(0)", x.leave(0), STATE);
        x.let(0);
        x.let(1);
        due(16, "leave(0)", x.leave(0), 1);
        due(16, "TURNS stay", x.count(1), 34);
        due(16, "count(6)", x.count(6), 2);
        due(16, "leave(0)", x.leave(0), STATE);
        due(16, "leave(2)", x.leave(2), BAD);
        due(16, "leave(-1)", x.leave(-1), BAD);
        due(16, "leave(1)", x.leave(1), 0);
        due(16, "he comes again", x.let(0), 41);
        due(16, "count(4)", x.count(4), 5);
    }

    private static void hours() {
        StrangersWind x = townOf("w121 s100");
        int[] strikes = {2, 1, 1, 1, 1, 1, 0, 0};
        int[] clocks = {1, 2, 3, 4, 5, 6, 6, 6};
        int[] wounds = {10, 8, 6, 4, 2, 0, 0, 0};
        for (int h = 0; h < 8; h++) {
            due(17, "hour() " + h, x.hour(), strikes[h]);
            due(17, "asked()", x.asked(), clocks[h]);
            due(17, "count(1)", x.count(1), wounds[h]);
            due(17, "count(3)", x.count(3), h + 1);
        }
        StrangersWind y = townOf("w200 s100");
        for (int h = 0; h < 11; h++) {
            y.hour();
        }
        due(17, "asked() at 11", y.asked(), 11);
        y.hour();
        due(17, "asked() round the dial", y.asked(), 0);
        StrangersWind z = townOf("w023 s100");
        due(17, "hour(), 0 at least", z.hour(), 1);
        due(17, "count(1)", z.count(1), 0);
        StrangersWind one = townOf("w010 s100");
        due(17, "hour(), WOUND 1", one.hour(), 1);
        due(17, "asked()", one.asked(), 1);
        due(17, "hour(), WOUND 0", one.hour(), 0);
        due(17, "asked()", one.asked(), 1);
    }

    private static void frosts() {
        StrangersWind x = townOf("w301 s100");
        due(18, "frost(1): it is so", x.frost(1), STATE);
        due(18, "frost(3)", x.frost(3), 1);
        due(18, "frost(0)", x.frost(0), 3);
        due(18, "frost(4)", x.frost(4), BAD);
        due(18, "frost(-1)", x.frost(-1), BAD);
        due(18, "count(4)", x.count(4), 2);
        due(18, "count(5)", x.count(5), 0);
        x.frost(3);
        x.hour();
        due(18, "WOUND 4 less", x.count(1), 26);
    }

    private static void undone() {
        StrangersWind x = townOf("w201 s700 p310");
        due(19, "undo(0)", x.undo(0), 0);
        due(19, "undo(1)", x.undo(1), BAD);
        x.let(0);
        x.hour();
        x.frost(3);
        x.let(1);
        x.leave(0);
        due(19, "undo(-1)", x.undo(-1), BAD);
        due(19, "undo(6)", x.undo(6), BAD);
        due(19, "undo(5)", x.undo(5), 0);
        due(19, "undo(4)", x.undo(4), 1);
        due(19, "IN again", x.count(6), 3);
        due(19, "undo(2)", x.undo(2), 2);
        int[] counts = {2, 25, 1, 1, 2, 1, 1};
        for (int what = 0; what < counts.length; what++) {
            due(19, "count(" + what + ")", x.count(what), counts[what]);
        }
        due(19, "undo(0)", x.undo(0), 2);
        due(19, "WOUND as at first", x.count(1), 20);
        due(19, "nobody IN", x.count(6), 0);
        due(19, "CLOCK", x.count(2), 0);
        due(19, "HOURS", x.count(3), 0);
        due(19, "FROST", x.count(5), 1);
    }

    private static void kept() {
        StrangersWind x = townOf("w201 s700 p310");
        due(20, "keep(3)", x.keep(3), BAD);
        due(20, "keep(-1)", x.keep(-1), BAD);
        due(20, "keep(0)", x.keep(0), 0);
        x.gate(1);
        x.let(1);
        x.hour();
        due(20, "keep(2)", x.keep(2), 2);
        x.frost(0);
        due(20, "count(10)", x.count(10), 2);
        due(21, "on(0)", x.on(0), 0);
        trait(x, 21, 1, 2, 1);
        due(21, "WOUND", x.count(1), 20);
        due(21, "on(2)", x.on(2), 2);
        trait(x, 21, 1, 2, 0);
        due(21, "WOUND", x.count(1), 21);
        due(21, "FROST", x.count(5), 1);
        due(21, "undo(1) behind it", x.undo(1), 1);
        due(21, "WOUND", x.count(1), 23);
        due(21, "on(2) again", x.on(2), 2);
        due(21, "count(2)", x.count(2), 1);
        due(20, "keep(0) anew", x.keep(0), 2);
        due(20, "count(10)", x.count(10), 2);
        x.undo(0);
        due(21, "on(0)", x.on(0), 2);
        finds(21, "on(1)", x, 0, x.on(1), 1);
        due(21, "on(3)", x.on(3), BAD);
        due(21, "on(-1)", x.on(-1), BAD);
    }

    private static void lasting() {
        StrangersWind x = townOf("w202 s100");
        due(22, "lasts()", x.lasts(), 7);
        due(22, "asked()", x.asked(), 1);
        x.frost(3);
        due(22, "lasts()", x.lasts(), 5);
        x.frost(0);
        due(22, "lasts()", x.lasts(), 20);
        due(22, "it is aside", x.count(4), 2);
        StrangersWind y = townOf("w003 s100");
        y.stranger(0, 1);
        due(22, "lasts()", y.lasts(), 0);
        due(22, "asked(): none", y.asked(), 0);
        StrangersWind z = townOf("w010 s100");
        due(22, "lasts()", z.lasts(), 1);
        due(22, "asked()", z.asked(), 1);
    }

    private static void windings() {
        StrangersWind x = townOf("w200 s706 t917 c808 p209 p301 b702");
        fill(x, 0, 3, 4, 5, 1);
        due(23, "wound(0)", x.wound(0), 17);
        due(23, "asked()", x.asked(), 19);
        fill(x, 1);
        due(23, "wound of none", x.wound(1), 20);
        due(23, "asked()", x.asked(), 0);
        fill(x, 1, 0, 1, 2, 3, 4, 5);
        due(23, "wound of all", x.wound(1), 20 + 7 - 13 + 3 + 2 + 4 + 7);
        due(23, "asked()", x.asked(), 33);
        due(23, "it is aside", x.count(6), 0);
        due(23, "wound(6)", x.wound(6), BAD);
        finds(23, "wound(2)", x, 0, x.wound(2), 1);
        fill(x, 1, 9, 9, 9, 9, 9, 9, 9);
        finds(23, "seven", x, 0, x.wound(1), 5);
        fill(x, 1, 0, 6);
        finds(23, "no STRANGER", x, 0, x.wound(1), 3);
        fill(x, 1, NONE);
        finds(23, "NONE", x, 1, x.wound(1), 3);
        fill(x, 1, 2, 3, 2);
        finds(23, "one twice", x, 2, x.wound(1), 3);
        x.let(3);
        finds(23, "one IN", x, 3, x.wound(0), 3);
    }

    private static void mosts() {
        StrangersWind x = townOf("w200 s710 p300 p400 s100");
        due(24, "most()", x.most(), 29);
        due(24, "asked()", x.asked(), 14);
        x.let(1);
        due(24, "most()", x.most(), 29);
        due(24, "asked()", x.asked(), 12);
        StrangersWind first = townOf("w000 s100 s110");
        due(24, "the first alone", first.most(), 1);
        due(24, "asked()", first.asked(), 1);
        StrangersWind y = townOf("w600 s100 s110");
        due(24, "nobody is best", y.most(), 60);
        due(24, "asked()", y.asked(), 0);
        StrangersWind z = townOf("w400 m100 s900 s900");
        due(24, "the least number of sets alike", z.most(), 57);
        due(24, "asked()", z.asked(), 6);
        z.let(0);
        z.let(1);
        z.let(2);
        due(24, "all IN", z.most(), z.count(1));
        due(24, "asked()", z.asked(), 0);
    }

    private static void orders() {
        StrangersWind x = townOf("w050 s300 s910 b800");
        due(25, "order(2)", x.order(2), 8);
        holds(25, x, 2, 1, 0, 2);
        x.let(2);
        due(25, "order(2)", x.order(2), 3);
        holds(25, x, 2, 1, 0);
        x.let(0);
        x.let(1);
        due(25, "all IN", x.order(2), x.count(1));
        holds(25, x, 2);
        StrangersWind y = townOf("w000 s100 s200 c300");
        due(25, "alike: the first by numbers", y.order(5), 4);
        holds(25, y, 5, 0, 1, 2);
        due(25, "order(6)", y.order(6), BAD);
        due(25, "order(-1)", y.order(-1), BAD);
        due(25, "it is aside", y.count(6), 0);
    }

    private static void lettings() {
        StrangersWind x = townOf("w000 s105 s203 s116");
        due(26, "ways(0, 0)", x.ways(0, 0), 1);
        due(26, "asked()", x.asked(), 0);
        told(26, x, 1, 1);
        due(26, "ways(1, 1)", x.ways(1, 1), 1);
        due(26, "asked()", x.asked(), 3);
        told(26, x, 2, 1);
        due(26, "ways(1, 0)", x.ways(1, 0), 1);
        due(26, "asked()", x.asked(), 0);
        told(26, x, 2, 1);
        // In two HOURS both go on by (0, 1), (1, nobody), (1, 0); (1, 2) takes the second one's TURN away.
        due(26, "ways(2, 2)", x.ways(2, 2), 1);
        due(26, "asked()", x.asked(), 3);
        told(26, x, 3, 1);
        due(26, "ways(2, 3)", x.ways(2, 3), 1);
        due(26, "asked()", x.asked(), NONE);
        told(26, x, 0, 1);
        due(27, "bread(2, 2, 4)", x.bread(2, 2, 4), 3);
        holds(27, x, 4, 1, NONE);
        due(27, "bread(2, 3, 4)", x.bread(2, 3, 4), NONE);
        holds(27, x, 4, 1, NONE);
        due(27, "bread(2, 1, 4)", x.bread(2, 1, 4), 3);
        holds(27, x, 4, NONE, 1);
        due(27, "bread(0, 0, 4)", x.bread(0, 0, 4), 0);
        holds(27, x, 4);
        x.let(1);
        due(27, "bread(3, 3, 4)", x.bread(3, 3, 4), 5);
        holds(27, x, 4, NONE, NONE, 0);
        x.hour();
        due(26, "ways(1, 2), the CLOCK at 1", x.ways(1, 2), 1);
        told(26, x, 2, 1);
        int[][] bad = {{-1, 0, 0}, {6, 0, 0}, {0, -1, 0}, {0, 12, 0}};
        for (int[] b : bad) {
            due(26, "ways BAD", x.ways(b[0], b[1]), BAD);
            due(27, "bread BAD", x.bread(b[0], b[1], b[2]), BAD);
        }
        due(27, "bread(0, 0, 6)", x.bread(0, 0, 6), BAD);
        due(27, "bread(0, 0, -1)", x.bread(0, 0, -1), BAD);
        StrangersWind y = townOf("w600 s100 s100 s100 s100 s100 s100");
        y.ways(5, 5);
        told(26, y, 4051, 1);
    }

    private static void goings() {
        StrangersWind x = townOf("w000 s100 s200 s110");
        due(28, "goes(1)", x.goes(1), 1);
        due(28, "asked()", x.asked(), 1);
        due(28, "goes(2)", x.goes(2), 2);
        due(28, "asked()", x.asked(), 1);
        due(28, "goes(5)", x.goes(5), 3);
        due(28, "asked()", x.asked(), 2);
        due(28, "goes(0)", x.goes(0), 0);
        due(28, "asked()", x.asked(), 0);
        x.let(0);
        x.hour();
        due(28, "goes(5), one IN, the CLOCK at 1", x.goes(5), 2);
        due(28, "asked()", x.asked(), 1);
        due(28, "goes(6)", x.goes(6), BAD);
        due(28, "goes(-1)", x.goes(-1), BAD);
        due(28, "asked() stays", x.asked(), 1);
    }

    private static void behinds() {
        StrangersWind x = townOf("w011 s300 s900 s110");
        fill(x, 0, NONE, NONE, 0, 1, 2);
        due(29, "behind(0)", x.behind(0), 5);
        due(29, "asked()", x.asked(), 4);
        fill(x, 0);
        due(29, "behind none", x.behind(0), 1);
        due(29, "asked()", x.asked(), 0);
        due(29, "behind(6)", x.behind(6), BAD);
        due(29, "behind(-1)", x.behind(-1), BAD);
        finds(29, "behind(1)", x, 0, x.behind(1), 1);
        fill(x, 0, 7, 7, 7, 7, 7, 7);
        finds(29, "six", x, 0, x.behind(0), 5);
        fill(x, 0, 3);
        finds(29, "none such", x, 0, x.behind(0), 3);
        fill(x, 0, -1);
        finds(29, "none such", x, 1, x.behind(0), 3);
        fill(x, 0, 2, NONE, 2);
        finds(29, "one twice", x, 2, x.behind(0), 3);
        x.let(0);
        x.hour();
        fill(x, 0, 0);
        finds(29, "one IN", x, 3, x.behind(0), 3);
        fill(x, 0, 1);
        due(29, "behind(0)", x.behind(0), 9);
        due(29, "asked()", x.asked(), 2);
        StrangersWind y = townOf("w100 p100 s100 p200 b400");
        fill(y, 0, 0, 2, 3);
        due(29, "those IN count", y.behind(0), 10 + 1 + 3 + 4 - 3);
        due(29, "asked()", y.asked(), 3);
    }

    private static void beards() {
        // Sets and what an HOUR leaves: {} 4, {0} 9, {1} 10, {0 1} 15, {2} 0, {0 2} 4, {1 2} 5, {0 1 2} 10.
        StrangersWind x = townOf("w050 s500 s600 s510");
        due(30, "fits(2)", x.fits(2), 1);
        due(30, "asked()", x.asked(), 2);
        told(30, x, 3, 1);
        due(30, "fits(1)", x.fits(1), 1);
        due(30, "asked()", x.asked(), 0);
        told(30, x, 4, 1);
        due(30, "fits(0)", x.fits(0), 1);
        due(30, "asked()", x.asked(), 4);
        told(30, x, 1, 1);
        due(30, "fits(10)", x.fits(10), 1);
        due(30, "asked()", x.asked(), NONE);
        told(30, x, 0, 1);
        due(31, "sure(2)", x.sure(2), 2);
        due(31, "asked()", x.asked(), 0);
        due(31, "sure(0)", x.sure(0), 4);
        due(31, "asked()", x.asked(), 3);
        due(31, "sure(1)", x.sure(1), 0);
        due(31, "asked()", x.asked(), 0);
        due(32, "ask(1)", x.ask(1), 0);
        due(32, "asked()", x.asked(), 2);
        due(32, "ask(2)", x.ask(2), 0);
        due(32, "asked()", x.asked(), 2);
        due(33, "came(2)", x.came(2), 1);
        due(33, "asked()", x.asked(), 3);
        due(33, "came(1)", x.came(1), 0);
        due(33, "asked()", x.asked(), 2);
        x.let(0);
        // Now of those not IN: {} 9, {1} 15, {2} 4, {1 2} 10.
        due(30, "fits(1)", x.fits(1), 1);
        due(30, "asked()", x.asked(), 0);
        told(30, x, 2, 1);
        due(31, "sure(1), one IN", x.sure(1), 0);
        due(31, "asked()", x.asked(), 2);
        due(31, "sure(2), one IN", x.sure(2), 2);
        due(31, "asked()", x.asked(), 0);
        due(32, "ask(1), one IN", x.ask(1), 2);
        due(32, "asked()", x.asked(), 1);
        due(33, "came(2)", x.came(2), 1);
        due(33, "asked()", x.asked(), 2);
        due(30, "it is aside", x.count(4), 1);
    }

    private static void beardsRefused() {
        StrangersWind x = townOf("w050 s500");
        int[] bad = {-1, 11};
        for (int v : bad) {
            due(30, "fits BAD", x.fits(v), BAD);
            due(31, "sure BAD", x.sure(v), BAD);
            due(32, "ask BAD", x.ask(v), BAD);
            due(33, "came BAD", x.came(v), BAD);
        }
        x.stranger(0, 1);
        finds(31, "sure(9)", x, 0, x.sure(9), 4);
        finds(32, "ask(9)", x, 1, x.ask(9), 4);
        finds(33, "came(9)", x, 2, x.came(9), 4);
        due(41, "asked() stays", x.asked(), 5);
        x.let(0);
        due(32, "ask(1), all IN", x.ask(1), NONE);
        due(41, "asked() stays behind NONE", x.asked(), 5);
        finds(32, "ask(0), all IN, no set", x, 3, x.ask(0), 4);
        due(31, "sure(1), all IN", x.sure(1), 0);
        due(33, "came(1), all IN", x.came(1), 0);
        due(33, "asked()", x.asked(), 0);
        StrangersWind y = townOf("w600 s900 s900 s900 s900 s900 s900");
        for (int k = 0; k < 6; k++) {
            y.let(0);
            y.leave(0);
            y.let(1);
            y.leave(1);
        }
        due(30, "WOUND 94", y.count(1), 94);
        due(30, "fits(10)", y.fits(10), 1);
        told(30, y, 64, 1);
    }

    private static void duels() {
        StrangersWind x = townOf("w200 s900 s710 s300 s210");
        due(34, "duel(0)", x.duel(0), 20);
        due(34, "duel(1)", x.duel(1), 29);
        due(34, "duel(2)", x.duel(2), 22);
        due(34, "duel(3)", x.duel(3), 25);
        due(34, "duel(4)", x.duel(4), 23);
        due(34, "duel(5)", x.duel(5), BAD);
        due(34, "duel(-1)", x.duel(-1), BAD);
        x.let(0);
        due(34, "duel(1), one IN", x.duel(1), 32);
        due(34, "it is aside", x.count(4), 1);
        StrangersWind y = townOf("w200 s910 s510");
        due(34, "nobody is let in", y.duel(1), 20);
        due(34, "duel(2)", y.duel(2), 11);
        // The first one lets in the weaker one, so that the other one can't take both away.
        due(34, "duel(4)", y.duel(4), 6);
    }

    private static void shuts() {
        StrangersWind x = townOf("w200 s900 s710 b300 s210");
        due(35, "shut(0)", x.shut(0), 11);
        due(35, "shut(1)", x.shut(1), 31);
        due(35, "shut(2)", x.shut(2), BAD);
        due(35, "shut(-1)", x.shut(-1), BAD);
        x.let(0);
        due(35, "shut(1), one IN", x.shut(1), 31);
        due(35, "shut(0), one IN", x.shut(0), 20);
        due(35, "it is aside", x.count(4), 1);
    }

    private static void meetings() {
        StrangersWind x = townOf("w030 s100");
        due(36, "meets(0)", x.meets(0), 0);
        due(36, "asked()", x.asked(), 0);
        due(36, "meets(11)", x.meets(11), 4);
        due(36, "asked()", x.asked(), 3);
        due(36, "meets(4)", x.meets(4), 11);
        due(36, "asked()", x.asked(), 3);
        due(36, "meets(12)", x.meets(12), BAD);
        due(36, "meets(-1)", x.meets(-1), BAD);
        StrangersWind y = townOf("w390 s100");
        due(36, "meets(11)", y.meets(11), 40);
        due(36, "asked()", y.asked(), 3);
        due(36, "meets(10)", y.meets(10), NONE);
        due(36, "asked() stays behind NONE", y.asked(), 3);
        y.let(0);
        due(36, "meets(11) at 40", y.meets(11), NONE);
        y.hour();
        due(36, "meets(1), the CLOCK at 1", y.meets(1), 0);
        due(36, "asked()", y.asked(), 1);
    }

    private static void books() {
        StrangersWind x = townOf("w380 s500 s910 p400 p500");
        fill(x, 0, 0, 43, 1, 34, 2, 38, 3, 44);
        due(37, "check(0)", x.check(0), NONE);
        fill(x, 0, 0, 43, 1, 34, 2, 39, 3, 44);
        due(37, "WOUND otherwise", x.check(0), 2);
        fill(x, 0, 2, 42, 2, 46);
        due(37, "one that is IN by then", x.check(0), 1);
        fill(x, 0);
        due(37, "an empty book", x.check(0), NONE);
        x.row(3, 40);
        due(37, "a book of 20 pairs", x.check(3), 0);
        due(37, "check(6)", x.check(6), BAD);
        due(37, "check(-1)", x.check(-1), BAD);
        finds(37, "check(1)", x, 0, x.check(1), 1);
        fill(x, 0, 9, 9, 9);
        finds(37, "not by pairs", x, 0, x.check(0), 5);
        fill(x, 0, 0, 1, 4, 4);
        finds(37, "no STRANGER, behind a false pair", x, 0, x.check(0), 3);
        fill(x, 0, -9, 1);
        finds(37, "no STRANGER", x, 1, x.check(0), 3);
        x.let(0);
        fill(x, 0, 0, 43);
        due(37, "one IN", x.check(0), 0);
        due(37, "it is aside", x.count(4), 1);
    }

    private static void chances() {
        // HOURS: {} 2, {0} 4, {1} 1, {0 1} 3.
        StrangersWind x = townOf("w020 s200 s110");
        due(38, "odds(3, 4)", x.odds(3, 4), 1);
        told(38, x, 1, 3);
        x.odds(2, 4);
        told(38, x, 7, 9);
        x.odds(4, 3);
        told(38, x, 3, 16);
        x.odds(0, 5);
        told(38, x, 1, 1);
        x.odds(5, 5);
        told(38, x, 0, 1);
        x.odds(3, 12);
        told(38, x, 1, 1);
        x.odds(2, 0);
        told(38, x, 1, 1);
        x.odds(3, 0);
        told(38, x, 0, 1);
        x.let(1);
        x.odds(2, 3);
        told(38, x, 1, 4);
        x.let(0);
        x.odds(3, 5);
        told(38, x, 1, 1);
        due(38, "odds(-1, 0)", x.odds(-1, 0), BAD);
        due(38, "odds(13, 0)", x.odds(13, 0), BAD);
        due(38, "odds(0, -1)", x.odds(0, -1), BAD);
        due(38, "odds(0, 13)", x.odds(0, 13), BAD);
        told(38, x, 1, 1);
        StrangersWind y = townOf("w013 s700");
        y.odds(2, 1);
        told(38, y, 1, 12);
        StrangersWind z = townOf("w120 s110");
        due(38, "odds(12, 3)", z.odds(12, 3), 1);
        told(38, z, 3, 4);
    }

    private static void means12() {
        StrangersWind x = townOf("w020 s200 s110");
        due(39, "mid(6)", x.mid(6), 1);
        told(39, x, 5, 2);
        x.mid(0);
        told(39, x, 2, 1);
        x.mid(12);
        told(39, x, 3, 1);
        x.mid(3);
        told(39, x, 9, 4);
        x.let(0);
        x.mid(1);
        told(39, x, 47, 12);
        due(39, "mid(-1)", x.mid(-1), BAD);
        due(39, "mid(13)", x.mid(13), BAD);
        told(39, x, 47, 12);
        StrangersWind y = townOf("w000 s110");
        y.mid(5);
        told(39, y, 0, 1);
    }

    private static void lotsDrawn() {
        // From 1: 48271 (1 modulo 3; by 8: 6033, even), 182605794 (0 modulo 3), 1291394886 (0 modulo 3),
        // 1914720637 (1 modulo 3; by 8: 239340079, odd).
        StrangersWind x = townOf("w200 s700 s900");
        due(40, "lots(1, 1)", x.lots(1, 1), 29);
        due(40, "count(6)", x.count(6), 2);
        x.undo(0);
        due(40, "lots(4, 1)", x.lots(4, 1), 27);
        due(40, "count(6): he goes OUT", x.count(6), 0);
        due(40, "count(2)", x.count(2), 2);
        due(40, "count(4)", x.count(4), 4);
        due(40, "undo(3)", x.undo(3), 1);
        due(40, "count(6)", x.count(6), 2);
        // From the greatest seed, -1 modulo 2147483647: 2147435376 (0 modulo 3).
        x.undo(0);
        due(40, "lots(1, 2147483646)", x.lots(1, 2147483646), 19);
        due(40, "lots(0, 1)", x.lots(0, 1), BAD);
        due(40, "lots(21, 1)", x.lots(21, 1), BAD);
        due(40, "lots(1, 0)", x.lots(1, 0), BAD);
        due(40, "lots(1, -5)", x.lots(1, -5), BAD);
        due(40, "lots(1, 2147483647)", x.lots(1, 2147483647), BAD);
        x.undo(0);
        x.lots(20, 5);
        due(40, "count(4)", x.count(4), 20);
        x.lots(20, 6);
        due(40, "count(4)", x.count(4), 40);
        due(40, "lots(1, 6)", x.lots(1, 6), FULL);
        x.undo(39);
        due(40, "lots(2, 6)", x.lots(2, 6), FULL);
        due(40, "count(4) stays", x.count(4), 39);
        x.lots(1, 6);
        due(40, "count(4)", x.count(4), 40);
    }

    private static void asides() {
        StrangersWind x = townOf("w050 s500");
        x.stranger(0, 1);
        int before = x.asked();
        due(41, "asked()", before, 5);
        x.let(0);
        x.leave(0);
        x.frost(1);
        x.undo(0);
        x.keep(0);
        x.on(0);
        x.order(0);
        x.bread(1, 1, 0);
        x.duel(1);
        x.shut(0);
        x.odds(1, 1);
        x.mid(1);
        x.check(0);
        x.mark(0, 1);
        x.fault(0);
        x.lots(1, 1);
        x.lay(9, 0, 0);
        x.count(0);
        x.digest();
        due(41, "asked() stays", x.asked(), 5);
        x.undo(0);
        x.hour();
        due(41, "asked() of hour()", x.asked(), 1);
        x.town(0);
        due(41, "asked() stays", x.asked(), 1);
    }

    private static void fractions() {
        StrangersWind x = townOf("w020 s200 s110");
        x.mid(3);
        x.goes(1);
        x.most();
        x.hour();
        x.ways(9, 9);
        x.sure(1);
        x.ask(1);
        x.town(0);
        due(42, "upper() stays", x.upper(), 9);
        due(43, "lower() stays", x.lower(), 4);
        x.fits(1);
        due(42, "upper() of fits()", x.upper(), 4);
        due(43, "lower() of fits()", x.lower(), 1);
    }

    private static void counts() {
        StrangersWind x = townOf("w301 t100 m200 b300 c400 s500 p600");
        x.let(2);
        x.hour();
        x.let(5);
        x.frost(2);
        x.row(3, 3);
        x.text(1, 1);
        x.text(2, 0);
        x.keep(1);
        int[] want = {6, 35, 1, 1, 4, 2, 36, 2, 1, 3, 1};
        for (int what = 0; what < want.length; what++) {
            due(44, "count(" + what + ")", x.count(what), want[what]);
        }
        due(44, "count(11)", x.count(11), BAD);
        due(44, "count(-1)", x.count(-1), BAD);
    }

    private static void findingsCounted() {
        StrangersWind x = new StrangersWind();
        x.row(0, -1);
        due(45, "finding()", x.finding(), 5);
        x.at(0, 0);
        x.at(1, 0);
        due(45, "finding()", x.finding(), 1);
        x.row(9, 9);
        x.hour();
        x.row(0, 0);
        due(45, "finding() stays", x.finding(), 1);
        x.mean(0);
        due(45, "finding()", x.finding(), 4);
        int[] want = {0, 2, 0, 0, 1, 1};
        for (int f = 1; f <= 5; f++) {
            due(46, "findings(" + f + ")", x.findings(f), want[f]);
        }
        due(46, "findings(0)", x.findings(0), BAD);
        due(46, "findings(6)", x.findings(6), BAD);
        due(46, "findings(-1)", x.findings(-1), BAD);
    }

    private static long digestOf(long... values) {
        long h = 17;
        for (long v : values) {
            h = 31 * h + v;
        }
        return h;
    }

    private static void digests() {
        StrangersWind x = new StrangersWind();
        due(47, "digest() at first", x.digest(),
            digestOf(0, 0, 0, 0, 0, 0, 0, 0, 0, 0, 0, -1, -1, -1, -1, -1, -1, -1, -1, -1, -1, -1, -1, -1));
        x.text(3, 8);
        String text = "w201t503";
        for (int i = 0; i < 8; i++) {
            x.put(3, i, text.charAt(i));
        }
        x.town(3);
        x.let(0);
        x.keep(1);
        x.hour();
        x.row(2, 2);
        x.lay(2, 1, -7);
        x.text(0, 1);
        x.put(0, 0, 200);
        long want = digestOf(1, 25, 1, 1, 2, 1, 1, 1, 1, 2, 1,
            1, 5, 0, 3, 1, 7,
            -1, 1, -1,
            -1, -1, 2, 0, -7, -1, -1, -1,
            1, -56, -1, -1, 8, 'w', '2', '0', '1', 't', '5', '0', '3');
        int asked = x.asked();
        due(47, "digest()", x.digest(), want);
        due(47, "digest() changes nothing", x.digest(), want);
        due(47, "asked() stays", x.asked(), asked);
        x.tear(2);
        x.finding();
        due(47, "digest() without the ROW", x.digest() == want ? 1 : 0, 0);
    }

    private static void noTown() {
        StrangersWind x = new StrangersWind();
        due(12, "stranger(0, 0)", x.stranger(0, 0), BAD);
        due(13, "mark(0, 1)", x.mark(0, 1), BAD);
        due(14, "gate(0)", x.gate(0), BAD);
        due(15, "let(0)", x.let(0), BAD);
        due(16, "leave(0)", x.leave(0), BAD);
        due(17, "hour()", x.hour(), STATE);
        due(18, "frost(0)", x.frost(0), STATE);
        due(18, "frost(4)", x.frost(4), BAD);
        due(19, "undo(0)", x.undo(0), 0);
        due(20, "keep(0)", x.keep(0), STATE);
        due(20, "keep(3)", x.keep(3), BAD);
        due(22, "lasts()", x.lasts(), STATE);
        due(23, "wound(0)", x.wound(0), STATE);
        due(24, "most()", x.most(), STATE);
        due(25, "order(0)", x.order(0), STATE);
        due(26, "ways(0, 0)", x.ways(0, 0), STATE);
        due(27, "bread(0, 0, 0)", x.bread(0, 0, 0), STATE);
        due(28, "goes(0)", x.goes(0), STATE);
        due(29, "behind(0)", x.behind(0), STATE);
        due(30, "fits(0)", x.fits(0), STATE);
        due(31, "sure(0)", x.sure(0), STATE);
        due(32, "ask(0)", x.ask(0), STATE);
        due(33, "came(0)", x.came(0), STATE);
        due(34, "duel(0)", x.duel(0), STATE);
        due(35, "shut(0)", x.shut(0), STATE);
        due(36, "meets(0)", x.meets(0), STATE);
        due(37, "check(0)", x.check(0), STATE);
        due(38, "odds(0, 0)", x.odds(0, 0), STATE);
        due(39, "mid(0)", x.mid(0), STATE);
        due(40, "lots(1, 1)", x.lots(1, 1), STATE);
        due(45, "finding()", x.finding(), 0);
        due(25, "order(0) makes no ROW", x.count(8), 0);
    }

    private static void lastDeeds() {
        StrangersWind x = townOf("w600 s100 s200");
        x.let(0);
        for (int h = 0; h < 38; h++) {
            x.hour();
        }
        due(15, "let(1) is the 40th DEED", x.let(1), 23);
        x.undo(39);
        due(16, "leave(0) is the 40th DEED", x.leave(0), 0);
        x.undo(39);
        due(18, "frost(2) is the 40th DEED", x.frost(2), 0);
        due(44, "count(4)", x.count(4), 40);
    }

    private static void fullBooks() {
        StrangersWind x = townOf("w600 s100 s200");
        x.let(0);
        for (int h = 0; h < 38; h++) {
            x.hour();
        }
        due(17, "the 40th DEED", x.hour(), 3);
        due(17, "hour()", x.hour(), FULL);
        due(17, "asked() stays", x.asked(), 3);
        due(15, "let(1)", x.let(1), FULL);
        due(15, "let(0)", x.let(0), STATE);
        due(15, "let(2)", x.let(2), BAD);
        due(16, "leave(0)", x.leave(0), FULL);
        due(16, "leave(1)", x.leave(1), STATE);
        due(18, "frost(1)", x.frost(1), FULL);
        due(18, "frost(0)", x.frost(0), STATE);
        due(20, "keep(0)", x.keep(0), 40);
        due(21, "on(0)", x.on(0), 40);
        due(44, "count(4)", x.count(4), 40);
        due(44, "count(3)", x.count(3), 39);
    }
}
