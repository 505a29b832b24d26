/** The edges that the document names of TRIALS, chances, the BOOK, ACTS, THE IMAGE: each sentence by itself. */
public final class TellEdgesTest {
    private static final int NONE = -1, BAD = -2, STATE = -3, FULL = -4, NOTHING = -5, OTHER_KIND = -6;
    private static final int LOW = Integer.MIN_VALUE, HIGH = Integer.MAX_VALUE;
    private static final int ALL = Checks.ALL_HOURS, FIRST = 1, LAST = 1 << 23;
    private static final int HAND = 0, BELL = 1, HOME = 2, GUESSING = 3, LIFTING = 4, LATE = 5, TOLD = 6;
    private static final Checks CHECKS = new Checks();

    public static void main(String[] args) {
        trialsAtMost();
        trialsRefused();
        clear();
        brokenOne();
        brokenOneOfRows();
        tryNext();
        tryOfSeveral();
        findRefused();
        twinOf();
        twinOfRefused();
        onceAtItsEnds();
        onceLowest();
        onceRefused();
        bookAtMost();
        looked();
        actsWrap();
        actsOfNobody();
        trace();
        as();
        undoWithoutImage();
        imageOfAll();
        imageStays();
        imageOfRows();
        imageNotOfTrace();
        imageOfTape();
        imageOfLimits();
        count();
        callsAtMost();
        CHECKS.end("TellEdgesTest");
    }

    private static void due(String call, long got, long want) {
        CHECKS.due(call, got, want);
    }

    /** One HAND with this many TOOLS, neighbours being TWINS. */
    private static TwinTools tools(int howMany) {
        TwinTools x = Checks.people(HAND);
        Checks.pairs(x, new int[howMany]);
        return x;
    }

    private static void trialsAtMost() {
        CHECKS.sentence("TRIALS: .. (12 at most).");
        TwinTools x = tools(10);
        for (int i = 1; i <= 12; i++) {
            due("trial " + i, x.trial(i % 9, 9, i % 2 == 0), i);
        }
        due("a thirteenth", x.trial(0, 1, true), FULL);
        due("count(3)", x.count(3), 12);
        due("it is not among them", x.fits(0), 1023 - 1 - (1 << 9));
        CHECKS.sentence("21: NONE: tools; BAD: one TOOL; FULL: the first one told.");
        due("NONE ahead of FULL", x.trial(10, 0, true), NONE);
        due("NONE ahead of BAD", x.trial(10, 10, true), NONE);
        due("BAD ahead of FULL", x.trial(9, 9, true), BAD);
        CHECKS.sentence("TRIALS: the twelfth counts like the others.");
        TwinTools y = tools(4);
        for (int i = 1; i < 12; i++) {
            y.trial(0, 2, false);
        }
        due("ahead of it", y.find(0), 15);
        due("the twelfth", y.trial(0, 1, true), 12);
        due("behind it", y.find(0), 12);
    }

    private static void trialsRefused() {
        CHECKS.sentence("21: NONE: tools; BAD: one TOOL.");
        TwinTools x = tools(2);
        int[] none = {-1, 2, 10, LOW, HIGH};
        for (int t : none) {
            due("trial(" + t + ", 0)", x.trial(t, 0, true), NONE);
            due("trial(0, " + t + ")", x.trial(0, t, true), NONE);
            due("trial(" + t + ", " + t + ")", x.trial(t, t, false), NONE);
        }
        due("trial(0, 0)", x.trial(0, 0, true), BAD);
        due("trial(1, 1)", x.trial(1, 1, false), BAD);
        due("count(3)", x.count(3), 0);
        due("how many there are", x.trial(1, 0, true), 1);
    }

    private static void clear() {
        CHECKS.sentence("22: All TRIALS are gone: how many there were.");
        TwinTools x = tools(4);
        due("none", x.clear(), 0);
        x.trial(0, 1, true);
        due("one", x.clear(), 1);
        due("none again", x.clear(), 0);
        for (int i = 0; i < 12; i++) {
            x.trial(0, 1, true);
        }
        due("twelve", x.clear(), 12);
        due("count(3)", x.count(3), 0);
        due("all may be", x.find(0), 15);
        due("from 1 on", x.trial(0, 1, false), 1);
        due("what went is gone", x.find(0), 3);
        due("of nobody", new TwinTools().clear(), 0);
    }

    private static void brokenOne() {
        CHECKS.sentence("BROKEN ONE: all TOOLS that may be the one that is broken .. as bits: without rows.");
        due("no TOOLS", new TwinTools().find(0), 0);
        due("one", tools(1).find(0), 1);
        due("ten", tools(10).find(0), 1023);
        CHECKS.sentence("BROKEN ONE: .. just one being so (whatever is told of that).");
        TwinTools x = tools(10);
        x.broken(9, true);
        due("told of one", x.find(0), 1023);
        x.trial(8, 9, true);
        due("what is told does not count", x.find(0), 255);
        x.broken(0, true);
        x.broken(9, false);
        due("nor what is told then", x.find(0), 255);
    }

    private static void brokenOneOfRows() {
        CHECKS.sentence("BROKEN ONE: those with which each row of two TWINS went, if none of both is it.");
        TwinTools x = tools(10);
        x.trial(9, 8, true);
        due("went", x.find(0), 255);
        x.trial(0, 1, true);
        due("another one went", x.find(0), 252);
        CHECKS.sentence("BROKEN ONE: .. and did not, if one is.");
        x.trial(2, 3, false);
        due("did not", x.find(0), 12);
        x.trial(4, 5, false);
        due("two did not", x.find(0), 0);
        TwinTools y = tools(2);
        y.trial(0, 1, false);
        y.trial(0, 1, true);
        due("one both did and did not", y.find(0), 0);
        CHECKS.sentence("BROKEN ONE: .. and no other row went.");
        TwinTools z = tools(10);
        z.trial(1, 2, false);
        due("no TWINS did not go", z.find(0), 1023);
        z.trial(9, 0, true);
        due("no TWINS went", z.find(0), 0);
        z.twin(9, 0);
        due("TWINS now", z.find(0), 1023 - 1 - 512);
        z.twin(9, 8);
        due("TWINS no longer", z.find(0), 0);
        TwinTools w = tools(3);
        w.trial(2, 0, false);
        due("one without a TWIN", w.find(0), 7);
        w.trial(2, 1, true);
        due("one without a TWIN went", w.find(0), 0);
    }

    private static void tryNext() {
        CHECKS.sentence("TRY: .. (-5: there are no PAIRS).");
        due("no TOOLS", new TwinTools().find(1), NOTHING);
        due("one TOOL", tools(1).find(1), NOTHING);
        TwinTools x = Checks.people(HAND);
        for (int t = 0; t < 10; t++) {
            x.tool(0, 0);
        }
        due("ten without TWINS", x.find(1), NOTHING);
        x.twin(9, 8);
        due("the lesser TOOL is told", x.find(1), 8);
        CHECKS.sentence("TRY: .. the greater .. is least.");
        TwinTools y = tools(10);
        y.trial(0, 1, true);
        due("6 and 2 ahead of 8 and 0", y.find(1), 2);
        y.trial(2, 3, true);
        y.trial(4, 5, true);
        due("2 and 2", y.find(1), 6);
        y.trial(6, 7, true);
        due("2 are left: 2 or 0, all alike", y.find(1), 0);
    }

    private static void tryOfSeveral() {
        CHECKS.sentence("TRY: .. (of several the least lesser TOOL).");
        TwinTools x = tools(6);
        due("all alike", x.find(1), 0);
        x.trial(0, 2, true);
        due("nobody may be: all alike", x.find(1), 0);
        TwinTools y = tools(8);
        y.trial(0, 1, true);
        due("three alike", y.find(1), 2);
        CHECKS.sentence("TRY: .. how many of the BROKEN ONE's are among its two TOOLS, and how many are not.");
        TwinTools z = tools(4);
        z.trial(0, 1, false);
        // 0 and 1 are left: with 0 1 two are among, with 2 3 two are not.
        due("2 among or 2 not: alike", z.find(1), 0);
        z.twin(0, 2);
        z.clear();
        z.trial(0, 2, false);
        z.twin(0, 3);
        z.twin(1, 2);
        due("all four again", z.find(0), 15);
        due("alike", z.find(1), 0);
        TwinTools w = tools(5);
        w.trial(0, 1, false);
        w.twin(1, 4);
        // 0 1 are no longer TWINS, so all five may be; PAIRS 1 4 and 2 3: 2 and 3.
        due("all five", w.find(0), 31);
        due("the least of two", w.find(1), 1);
        w.trial(1, 4, false);
        due("1 and 4", w.find(0), 18);
        w.twin(1, 2);
        w.twin(3, 4);
        w.trial(4, 3, false);
        due("3 and 4, as the TWINS are now", w.find(0), 24);
        due("2 among, or 2 not", w.find(1), 1);
    }

    private static void findRefused() {
        CHECKS.sentence("23: NONE.");
        TwinTools x = tools(2);
        int[] whats = {-1, 2, LOW, HIGH};
        for (int what : whats) {
            due("find(" + what + ")", x.find(what), NONE);
            due("of nobody", new TwinTools().find(what), NONE);
        }
    }

    private static void twinOf() {
        CHECKS.sentence("TWIN OF a TOOL: all others that go with rows in which it is: without rows.");
        due("one TOOL", tools(1).fits(0), 0);
        due("two, the first", tools(2).fits(0), 2);
        due("two, the last", tools(2).fits(1), 1);
        due("ten, the first", tools(10).fits(0), 1022);
        due("ten, the last", tools(10).fits(9), 511);
        CHECKS.sentence("TWIN OF: .. if one did not, not that one.");
        TwinTools x = tools(10);
        x.trial(0, 9, false);
        due("as the first of the row", x.fits(0), 510);
        due("as the other of the row", x.fits(9), 510);
        due("not in the row", x.fits(1), 1021);
        x.broken(9, true);
        due("none being broken", x.fits(0), 510);
        for (int t = 1; t < 9; t++) {
            x.trial(t, 0, false);
        }
        due("no one is left", x.fits(0), 0);
        CHECKS.sentence("TWIN OF: .. if one went, that other one alone.");
        TwinTools y = tools(10);
        y.trial(3, 7, true);
        due("as the first of the row", y.fits(3), 1 << 7);
        due("as the other of the row", y.fits(7), 1 << 3);
        due("not in the row, so all others", y.fits(0), 1022);
        y.trial(7, 3, true);
        due("again", y.fits(3), 1 << 7);
        y.trial(3, 7, false);
        due("and did not", y.fits(3), 0);
        y.trial(4, 5, true);
        y.trial(4, 6, true);
        due("two went", y.fits(4), 0);
        due("one went with each of these", y.fits(5) + y.fits(6), 32);
    }

    private static void twinOfRefused() {
        CHECKS.sentence("24: NONE.");
        TwinTools x = tools(2);
        int[] none = {-1, 2, 10, LOW, HIGH};
        for (int t : none) {
            due("fits(" + t + ")", x.fits(t), NONE);
        }
    }

    private static void onceIs(int p, int q, int n, long above, long below) {
        TwinTools x = new TwinTools();
        due("once(" + p + ", " + q + ", " + n + ", 0)", x.once(p, q, n, 0), above);
        due("once(" + p + ", " + q + ", " + n + ", 1)", x.once(p, q, n, 1), below);
    }

    private static void onceAtItsEnds() {
        CHECKS.sentence("ONCE: odds of p, of q of ten (0 .. 10): never and always.");
        for (int n = 1; n <= 4; n++) {
            onceIs(0, 0, n, 0, 1);
            onceIs(0, 10, n, 0, 1);
            onceIs(10, 0, n, 0, 1);
            onceIs(10, 10, n, 1, 1);
        }
        onceIs(10, 1, 1, 1, 10);
        onceIs(1, 10, 1, 1, 10);
        onceIs(9, 10, 4, 9999, 10000);
        CHECKS.sentence("ONCE: .. in one of n HOURS (1 .. 4).");
        onceIs(1, 1, 1, 1, 100);
        onceIs(1, 1, 2, 199, 10000);
        onceIs(1, 1, 3, 29701, 1000000);
        onceIs(1, 1, 4, 3940399, 100000000);
        onceIs(9, 9, 4, 100000000 - 19 * 19 * 19 * 19, 100000000);
    }

    private static void onceLowest() {
        CHECKS.sentence("ONCE: .. a fraction in lowest terms.");
        onceIs(5, 10, 1, 1, 2);
        onceIs(5, 5, 1, 1, 4);
        onceIs(5, 10, 4, 15, 16);
        onceIs(4, 5, 2, 9, 25);
        onceIs(8, 10, 3, 124, 125);
        TwinTools x = new TwinTools();
        for (int pq = 0; pq < 121; pq++) {
            int p = pq / 11;
            int q = pq % 11;
            long above = x.once(p, q, 4, 0);
            long below = x.once(p, q, 4, 1);
            // The line's lower side divides a power of ten: only 2 and 5 could be left in both.
            boolean lowest = (above % 2 != 0 || below % 2 != 0) && (above % 5 != 0 || below % 5 != 0);
            long rest = 100 - p * q;
            boolean right = below > 0 && 100000000 % below == 0
                    && 100000000 / below * (below - above) == rest * rest * rest * rest;
            due("once(" + p + ", " + q + ", 4, ..)", lowest && right ? 1 : 0, 1);
        }
    }

    private static void onceRefused() {
        TwinTools x = new TwinTools();
        int[] odds = {-1, 11, LOW, HIGH};
        CHECKS.sentence("25: (p, q 0 .. 10) .. NO.");
        for (int o : odds) {
            for (int other = 0; other <= 10; other++) {
                due("p " + o, x.once(o, other, 1, 0), TwinTools.NO);
                due("q " + o, x.once(other, o, 1, 1), TwinTools.NO);
            }
            due("both " + o, x.once(o, o, 1, 0), TwinTools.NO);
        }
        CHECKS.sentence("25: n HOURS (1 .. 4) .. NO.");
        int[] hours = {-1, 0, 5, LOW, HIGH};
        for (int n : hours) {
            due("n " + n, x.once(5, 5, n, 0), TwinTools.NO);
        }
        CHECKS.sentence("25: part 0 above, 1 below the line .. NO.");
        int[] parts = {-1, 2, LOW, HIGH};
        for (int part : parts) {
            due("part " + part, x.once(5, 5, 1, part), TwinTools.NO);
            due("never, part " + part, x.once(0, 0, 1, part), TwinTools.NO);
        }
        CHECKS.sentence("NO = Long.MIN_VALUE.");
        due("NO", TwinTools.NO, Long.MIN_VALUE);
    }

    private static void bookAtMost() {
        CHECKS.sentence("26: A row of the BOOK: how many there are (12 at most).");
        TwinTools x = tools(10);
        for (int i = 1; i <= 12; i++) {
            due("book " + i, x.book(i % 2 == 0 ? 0 : 23, i % 2 == 0 ? 9 : 0), i);
        }
        CHECKS.sentence("26: FULL.");
        due("a thirteenth", x.book(0, 0), FULL);
        due("count(4)", x.count(4), 12);
        CHECKS.sentence("26: NONE: hour, tool.");
        int[] hours = {-1, 24, LOW, HIGH};
        for (int h : hours) {
            due("NONE ahead of FULL, hour " + h, x.book(h, 0), NONE);
            due("hour " + h, tools(1).book(h, 0), NONE);
        }
        int[] none = {-1, 10, LOW, HIGH};
        for (int t : none) {
            due("NONE ahead of FULL, tool " + t, x.book(0, t), NONE);
            due("tool " + t, tools(1).book(0, t), NONE);
        }
        due("the next one", tools(1).book(0, 1), NONE);
    }

    private static void looked() {
        CHECKS.sentence("27: LOOKED at: .. (-5: none).");
        due("of nobody", new TwinTools().looked(), NOTHING);
        TwinTools x = Checks.people(HAND, HAND);
        Checks.pairs(x, 0, 1, 0);
        due("no rows", x.looked(), NOTHING);
        x.free(0, FIRST | LAST);
        for (int i = 0; i < 11; i++) {
            x.book(i % 2 == 0 ? 0 : 23, i % 3 == 0 ? 1 : 0);
        }
        due("all are so", x.looked(), NOTHING);
        CHECKS.sentence("27: LOOKED at: the first row that is not so in THE DAY.");
        x.book(22, 0);
        due("the last row", x.looked(), 11);
        x.free(0, FIRST);
        due("the last hour", x.looked(), 1);
        x.free(0, LAST);
        due("the first row", x.looked(), 0);
        x.free(0, ALL);
        due("all are so now", x.looked(), NOTHING);
        x.broken(0, true);
        due("BROKEN", x.looked(), 0);
        TwinTools y = Checks.people(HAND, HAND);
        Checks.pairs(y, 0, 1, 0);
        y.book(5, 0);
        y.book(5, 2);
        due("without a TWIN", y.looked(), 1);
        y.twin(2, 1);
        due("its TWIN was taken", y.looked(), 0);
    }

    /** People of all kinds, each at its number, v 9. */
    private static TwinTools kinds() {
        TwinTools x = new TwinTools();
        for (int kind = HAND; kind <= TOLD; kind++) {
            x.person(kind, 9, 0);
        }
        x.person(HAND, 9, 0);
        return x;
    }

    private static void actsWrap() {
        CHECKS.sentence("ACTS .. with x (ints, wrapping).");
        TwinTools x = kinds();
        due("HAND lifts, beyond the greatest", x.act(7, 0, HIGH), LOW + 6);
        due("HAND waits, below the least", x.act(0, 1, LOW), HIGH - 8);
        due("HAND tells, twice the greatest", x.act(0, 2, HIGH), (HIGH - 9) * 2);
        due("HAND tells, twice the least", x.act(0, 2, LOW + 9), 0);
        due("BELL lifts, three times the greatest", x.act(1, 0, HIGH), HIGH - 2 + 1);
        due("BELL lifts, three times the least", x.act(1, 0, LOW), LOW + 1);
        due("HOME waits, the least turned round", x.act(2, 1, LOW + 7), LOW);
        due("GUESSING tells", x.act(3, 2, LOW), (LOW + 3 - 9) * 2 ^ 7);
        due("LIFTING tells, one below the least", x.act(4, 2, LOW), ((LOW - 1) * 3 + 4 - 9) * 2 + 2 * 3 + 4);
        due("LATE lifts", x.act(5, 0, HIGH), (LOW + 4) ^ 5);
        due("TOLD waits", x.act(6, 1, HIGH), LOW + 5);
        CHECKS.sentence("ACTS: x 0 and below.");
        due("HAND lifts 0", x.act(0, 0, 0), 0);
        due("HAND waits 0", x.act(0, 1, 0), -9);
        due("HAND tells -1", x.act(0, 2, -1), -20);
        due("BELL lifts -1", x.act(1, 0, -1), -2);
        due("HOME waits 0", x.act(2, 1, 0), 7);
        due("GUESSING tells 0", x.act(3, 2, 0), -12 ^ 7);
        due("LATE lifts -5", x.act(5, 0, -5), 5);
        due("LATE lifts -6", x.act(5, 0, -6), -1 ^ 5);
    }

    private static void actsOfNobody() {
        CHECKS.sentence("28: 0, and no TRACE then: no such one, act.");
        int[][] none = {{8, 0}, {-1, 0}, {LOW, 1}, {HIGH, 2}, {0, 3}, {0, -1}, {4, LOW}, {4, HIGH}, {8, 3}};
        for (int[] call : none) {
            TwinTools x = kinds();
            x.act(4, 2, 5);
            due("it ran", x.count(6), 7);
            String name = "act(" + call[0] + ", " + call[1] + ", 5)";
            due(name, x.act(call[0], call[1], 5), 0);
            due(name + ", count(6)", x.count(6), 0);
            due(name + ", trace(0)", x.trace(0), NONE);
        }
        due("nobody at all", new TwinTools().act(0, 0, 5), 0);
    }

    private static void traceIs(TwinTools x, int... bodies) {
        for (int i = 0; i < bodies.length; i++) {
            due("trace(" + i + ")", x.trace(i), bodies[i]);
        }
        due("count(6)", x.count(6), bodies.length);
        int[] none = {-1, bodies.length, 19, 20, 21, LOW, HIGH};
        for (int i : none) {
            due("trace(" + i + ")", x.trace(i), NONE);
        }
    }

    private static void trace() {
        CHECKS.sentence("29: THE TRACE's i-th body. NONE.");
        TwinTools x = kinds();
        traceIs(x);
        x.act(4, 2, 0);
        traceIs(x, 41, 3, 2, 11, 1, 11, 1);
        CHECKS.sentence("THE TRACE: .. in the latest act().");
        x.act(0, 0, 0);
        traceIs(x, 1);
        x.act(5, 2, 0);
        traceIs(x, 3, 21, 2, 51, 1);
        x.act(6, 2, 0);
        traceIs(x, 31, 3, 61, 2, 1);
    }

    private static void as() {
        CHECKS.sentence("30: .. taken for a KIND k (0 .. 6), or one under that: its v.");
        TwinTools x = kinds();
        int[] above = {HAND, HAND, HAND, HAND, BELL, HOME, GUESSING};
        for (int p = 0; p <= TOLD; p++) {
            due("as HAND", x.as(p, HAND), 9);
            due("as its own", x.as(p, p), 9);
            due("as the one above", x.as(p, above[p]), 9);
        }
        TwinTools y = Checks.people(LIFTING);
        due("v 0", y.as(0, BELL), 0);
        CHECKS.sentence("30: -6: it is of another KIND.");
        for (int p = 0; p <= TOLD; p++) {
            for (int k = 1; k <= TOLD; k++) {
                if (k != p && k != above[p]) {
                    due("as(" + p + ", " + k + ")", x.as(p, k), OTHER_KIND);
                }
            }
        }
        CHECKS.sentence("30: NONE: person, k.");
        int[] kinds = {-1, 7, LOW, HIGH};
        for (int k : kinds) {
            due("as(0, " + k + ")", x.as(0, k), NONE);
            due("as(6, " + k + ")", x.as(6, k), NONE);
        }
        int[] people = {-1, 8, LOW, HIGH};
        for (int p : people) {
            due("as(" + p + ", 0)", x.as(p, 0), NONE);
            due("as(" + p + ", 6)", x.as(p, 6), NONE);
        }
    }

    private static void undoWithoutImage() {
        CHECKS.sentence("32: STATE: there is none.");
        TwinTools x = tools(3);
        due("undo()", x.undo(), STATE);
        due("all is as it was", x.count(0) * 10 + x.count(1), 13);
        due("undo() again", x.undo(), STATE);
        CHECKS.sentence("31, 32: THE IMAGE of nobody.");
        TwinTools y = new TwinTools();
        due("image()", y.image(), 0);
        y.person(HAND, 0, 0);
        y.tool(0, 0);
        due("undo()", y.undo(), 0);
        due("nobody", y.count(0), 0);
        due("no TOOLS", y.count(1), 0);
        due("nor holders", y.tool(0, 0), NONE);
    }

    private static void imageOfAll() {
        CHECKS.sentence("THE IMAGE: all that there is.");
        TwinTools x = Checks.people(TOLD, HAND);
        Checks.pairs(x, 0, 1, 0);
        Checks.valley(x, "worth 3 h<24;bell 8");
        x.row(0, 3, 2);
        x.trial(0, 1, true);
        x.book(23, 0);
        due("image()", x.image(), 3);
        x.person(BELL, 0, 0);
        x.free(0, FIRST);
        x.row(0, 3, -1);
        x.row(0, 0, 1);
        x.tool(3, 1);
        x.twin(0, 3);
        x.broken(2, true);
        x.give(2, 1);
        x.trial(0, 2, false);
        x.book(0, 2);
        Checks.valley(x, "bell 9");
        x.feed('a');
        due("undo()", x.undo(), 3);
        int[] counts = {2, 3, 1, 1, 1, 0};
        for (int what = 0; what < counts.length; what++) {
            due("count(" + what + ")", x.count(what), counts[what]);
        }
        due("free", x.who(0, 3), ALL);
        due("twins", x.of(0, 2) * 10 + x.of(1, 2), 10);
        due("not broken", x.of(2, 3), 0);
        due("held", x.of(2, 1), 0);
        due("bell", x.day(3), 8);
        due("worth", x.worth(0, 0), 3);
        due("trials", x.find(0), 4);
        due("trials, of 0", x.fits(0), 2);
        due("book: told 2 in the last hour", x.looked(), 0);
        due("row", x.row(0, 3, -1), 2);
        due("row of nothing", x.row(0, 0, -1), NOTHING);
        due("book: as GUESSING", x.looked(), NOTHING);
    }

    private static void imageStays() {
        CHECKS.sentence("32: All is as THE IMAGE: how many TOOLS: again and again.");
        TwinTools x = tools(2);
        x.image();
        for (int i = 0; i < 3; i++) {
            x.tool(0, 0);
            x.twin(0, 2);
            x.broken(0, true);
            x.trial(0, 1, false);
            due("undo()", x.undo(), 2);
            due("twins", x.of(0, 2), 1);
            due("not broken", x.of(0, 3), 0);
            due("trials", x.count(3), 0);
        }
        CHECKS.sentence("31: THE IMAGE is taken: how many TOOLS there are: the newest alone.");
        x.tool(0, 0);
        due("image()", x.image(), 3);
        x.tool(0, 0);
        due("undo()", x.undo(), 3);
        due("undo() again", x.undo(), 3);
        CHECKS.sentence("THE IMAGE: all that there is: the TRIALS, though all were gone then.");
        TwinTools z = tools(8);
        z.trial(0, 1, true);
        z.trial(2, 3, false);
        z.image();
        z.clear();
        z.trial(5, 4, false);
        z.trial(6, 7, true);
        z.trial(7, 6, true);
        z.undo();
        due("how many", z.count(3), 2);
        due("the broken one", z.find(0), 12);
        due("of the first row", z.fits(0) * 10 + z.fits(1), 21);
        due("of the second row", z.fits(2), 255 - 4 - 8);
        due("of none", z.fits(5), 255 - 32);
        CHECKS.sentence("THE IMAGE: all that there is (but THE IMAGE ..).");
        TwinTools y = tools(1);
        y.image();
        y.tool(0, 0);
        y.image();
        due("no older one comes back", y.undo(), 2);
        due("nor behind another undo()", y.undo(), 2);
    }

    private static void imageOfRows() {
        CHECKS.sentence("THE IMAGE: all that there is: the ROWS of each one.");
        TwinTools x = Checks.people(TOLD, TOLD, TOLD, TOLD, TOLD, TOLD, TOLD, TOLD);
        for (int i = 0; i < 32; i++) {
            x.row(i / 4, i % 4, i % 10);
        }
        x.image();
        for (int i = 0; i < 32; i++) {
            due("as it was", x.row(i / 4, i % 4, (i + 1) % 10), i % 10);
        }
        x.undo();
        for (int i = 0; i < 32; i++) {
            due("row(" + i / 4 + ", " + i % 4 + ", ..)", x.row(i / 4, i % 4, -1), i % 10);
        }
    }

    private static void imageNotOfTrace() {
        CHECKS.sentence("THE IMAGE: all that there is (but .. THE TRACE).");
        TwinTools x = kinds();
        x.act(0, 0, 0);
        x.image();
        x.act(4, 2, 0);
        x.undo();
        due("the later one stays", x.count(6), 7);
        due("its first body", x.trace(0), 41);
        x.act(99, 0, 0);
        x.undo();
        due("none stays none", x.count(6), 0);
        due("no body", x.trace(0), NONE);
    }

    private static void imageOfTape() {
        CHECKS.sentence("THE IMAGE: all that there is: THE TAPE too.");
        TwinTools x = new TwinTools();
        Checks.feed(x, "bell 1");
        x.image();
        x.feed('2');
        due("behind", x.valley(), 0);
        due("bell 12", x.day(3), 12);
        Checks.feed(x, "worth 5 h=1");
        x.undo();
        due("its signs", x.count(5), 6);
        due("no VALLEYS", x.count(2), 0);
        due("bell without", x.day(3), 6);
        due("goes on behind", x.feed('7'), 7);
        due("it is read anew", x.valley(), 0);
        due("bell 17", x.day(3), 17);
        TwinTools y = new TwinTools();
        y.image();
        for (int i = 0; i < 100; i++) {
            y.feed('a');
        }
        y.undo();
        due("empty again", y.feed('a'), 1);
    }

    private static TwinTools filled() {
        TwinTools x = kinds();
        for (int i = 0; i < 10; i++) {
            x.tool(0, 0);
        }
        for (int i = 0; i < 5; i++) {
            Checks.valley(x, "bell 1");
        }
        for (int i = 0; i < 12; i++) {
            x.trial(0, 1, true);
            x.book(0, 0);
        }
        for (int i = 0; i < 100; i++) {
            x.feed('a');
        }
        return x;
    }

    private static void imageOfLimits() {
        CHECKS.sentence("32: All is as THE IMAGE: what was full is not, and what was is again.");
        TwinTools x = filled();
        due("image()", x.image(), 10);
        x.clear();
        due("undo()", x.undo(), 10);
        due("person", x.person(0, 0, 0), FULL);
        due("tool", x.tool(0, 0), FULL);
        due("valley", x.valley(), FULL);
        due("trial", x.trial(0, 1, true), FULL);
        due("book", x.book(0, 0), FULL);
        due("feed", x.feed('a'), FULL);
        TwinTools y = new TwinTools();
        y.image();
        for (int i = 0; i < 8; i++) {
            y.person(0, 0, 0);
        }
        for (int i = 0; i < 10; i++) {
            y.tool(0, 0);
        }
        y.undo();
        due("person", y.person(TOLD, 1, 1), 0);
        due("tool", y.tool(3, 0), 0);
        due("its sort", y.of(0, 0), 3);
    }

    private static void count() {
        CHECKS.sentence("33: count at its ends.");
        int[] most = {8, 10, 5, 12, 12, 100};
        TwinTools x = filled();
        TwinTools y = new TwinTools();
        for (int what = 0; what < most.length; what++) {
            due("count(" + what + ")", x.count(what), most[what]);
            due("of nobody", y.count(what), 0);
        }
        x.act(4, 2, 0);
        due("count(6)", x.count(6), 7);
        CHECKS.sentence("33: NONE.");
        int[] whats = {-1, 7, LOW, HIGH};
        for (int what : whats) {
            due("count(" + what + ")", x.count(what), NONE);
            due("of nobody", y.count(what), NONE);
        }
    }

    private static void callsAtMost() {
        CHECKS.sentence("An object is used for at most 512 calls: the last one is answered too.");
        TwinTools x = Checks.people(BELL, HAND);
        Checks.pairs(x, 0, 1);
        // Seven calls are done.
        for (int i = 0; i < 252; i++) {
            due("image()", x.image(), 2);
            due("undo()", x.undo(), 2);
        }
        due("the 512th", x.of(0, 4), 1 | 1 << 6 | 1 << 12 | 1 << 18);
    }
}
