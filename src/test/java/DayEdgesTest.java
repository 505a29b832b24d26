/** The edges that the document names of HOURS and DAYS, and of what would be best: each sentence by itself. */
public final class DayEdgesTest {
    private static final int NONE = -1, NOTHING = -5, UNJOINED = -9, NO_SUM = -10001;
    private static final int LOW = Integer.MIN_VALUE, HIGH = Integer.MAX_VALUE;
    private static final int ALL = Checks.ALL_HOURS, FIRST = 1, LAST = 1 << 23;
    private static final int HAND = 0, BELL = 1, LIFTING = 4, LATE = 5, TOLD = 6;
    private static final Checks CHECKS = new Checks();

    public static void main(String[] args) {
        goes();
        goesNot();
        waits();
        manyGo();
        hourRefused();
        canOfTwo();
        canOfFree();
        canNobodyTwice();
        mostOfNone();
        mostOfSeveral();
        many();
        emptyDay();
        allWorthAndWaiting();
        hoursAreTwentyFour();
        bestDay();
        dayRefused();
        changeNone();
        changeOfSeveral();
        changeOfLast();
        changeRefused();
        away();
        worst();
        joinSizes();
        joinOfSeveral();
        joinBest();
        joinRefused();
        bestByEachTest();
        CHECKS.end("DayEdgesTest");
    }

    private static void due(String call, long got, long want) {
        CHECKS.due(call, got, want);
    }

    /** This many HANDS, of house 0, always free. */
    private static TwinTools hands(int howMany) {
        return Checks.people(new int[howMany]);
    }

    private static void goes() {
        CHECKS.sentence("A PAIR GOES in an HOUR, if both TOOLS are worked at then.");
        TwinTools x = hands(2);
        Checks.pairs(x, 0, 1);
        due("both", x.hour(0, 0), 1);
        x.free(0, FIRST);
        x.free(1, LAST);
        due("the one alone", x.hour(0, 0), 0);
        due("the other one alone", x.hour(23, 0), 0);
        due("none", x.hour(1, 0), 0);
        x.free(1, FIRST | LAST);
        due("both again, first", x.hour(0, 0), 1);
        x.free(0, LAST);
        due("both again, last", x.hour(23, 0), 1);
    }

    private static void goesNot() {
        CHECKS.sentence("A PAIR GOES .. , and none of both is BROKEN.");
        for (int broken = 0; broken < 2; broken++) {
            TwinTools x = Checks.people(TOLD, TOLD);
            Checks.pairs(x, 0, 1);
            x.row(0, 0, 0);
            x.row(1, 0, 1);
            due("both are worked at", x.hour(0, 0), 1);
            x.broken(broken, true);
            due("and are still", x.at(0, 0) * 10 + x.at(1, 0), 1);
            due("one is BROKEN: " + broken, x.hour(0, 0), 0);
            due("both wait", x.hour(0, 1), 3);
            x.broken(1 - broken, true);
            due("both are", x.hour(0, 0), 0);
        }
        CHECKS.sentence("A PAIR GOES: one who holds both works at one alone.");
        TwinTools y = hands(1);
        Checks.pairs(y, 0, 0);
        due("hour(0, 0)", y.hour(0, 0), 0);
        due("hour(0, 1)", y.hour(0, 1), 1);
    }

    private static void waits() {
        CHECKS.sentence("A TOOL WAITS, if it is worked at, and does not go.");
        TwinTools x = Checks.people(HAND, HAND, TOLD);
        Checks.pairs(x, 0, 1, 0, 1);
        for (int t = 4; t < 10; t++) {
            x.tool(0, 2);
        }
        x.row(2, 0, 9);
        due("those that go do not", x.hour(0, 1), 1 << 9);
        due("not worked at, not waiting", x.hour(1, 1), 0);
        x.broken(0, true);
        due("its TWIN is not worked at", x.hour(1, 1), 1 << 2 | 1 << 1);
        x.free(1, 0);
        due("one alone", x.hour(23, 1), 1 << 2);
    }

    private static void manyGo() {
        CHECKS.sentence("15: 0 PAIRS that GO (bits of lesser TOOLS).");
        TwinTools x = hands(8);
        x.tool(0, 0);
        x.tool(0, 0);
        for (int t = 2; t < 10; t++) {
            x.tool(0, t - 2);
        }
        for (int t = 2; t < 6; t++) {
            x.twin(11 - t, t);
        }
        due("four, the lesser ones from 2 to 5", x.hour(0, 0), 0x3c);
        due("nobody waits", x.hour(0, 1), 0);
        due("in the last hour", x.hour(23, 0), 0x3c);
        x.free(7, ALL - LAST);
        due("one less", x.hour(23, 0), 0x38);
        due("its TOOL waits", x.hour(23, 1), 4);
        due("not so ahead", x.hour(22, 0), 0x3c);
    }

    private static void hourRefused() {
        CHECKS.sentence("15: -10001: NONE.");
        TwinTools x = hands(2);
        Checks.pairs(x, 0, 1);
        int[] hours = {-1, 24, 32, LOW, HIGH};
        for (int h : hours) {
            for (int what = 0; what < 5; what++) {
                due("hour(" + h + ", " + what + ")", x.hour(h, what), NO_SUM);
            }
        }
        int[] whats = {-1, 5, LOW, HIGH};
        for (int what : whats) {
            due("hour(0, " + what + ")", x.hour(0, what), NO_SUM);
            due("hour(24, " + what + ")", x.hour(24, what), NO_SUM);
        }
        due("hour(23, 4)", x.hour(23, 4), 1);
        due("of nobody", new TwinTools().hour(0, 0), 0);
    }

    private static void canOfTwo() {
        CHECKS.sentence("CAN: .. of which no TOOL is BROKEN.");
        for (int broken = 0; broken < 2; broken++) {
            TwinTools x = hands(2);
            Checks.pairs(x, 0, 1);
            due("many", x.hour(0, 4), 1);
            x.broken(broken, true);
            due("many, BROKEN " + broken, x.hour(0, 4), 0);
        }
        CHECKS.sentence("CAN: .. each held by two PEOPLE.");
        TwinTools y = hands(2);
        Checks.pairs(y, 0, 0, 0, 1);
        Checks.valley(y, "worth 9 t=0;worth 1 t=2");
        due("most", y.hour(0, 2), 1);
        due("its set", y.hour(0, 3), 4);
        due("many", y.hour(0, 4), 1);
        y.give(3, 0);
        due("most of one", y.hour(0, 2), 0);
        due("many of one", y.hour(0, 4), 0);
    }

    private static void canOfFree() {
        CHECKS.sentence("CAN: .. PEOPLE who are FREE then.");
        TwinTools x = hands(2);
        Checks.pairs(x, 0, 1);
        Checks.valley(x, "worth 5 h<24");
        x.free(0, FIRST | LAST);
        x.free(1, LAST);
        due("the one alone", x.hour(0, 2), 0);
        due("none", x.hour(1, 2), 0);
        due("both", x.hour(23, 2), 5);
        due("both, set", x.hour(23, 3), 1);
        x.free(1, FIRST);
        due("both, first", x.hour(0, 4), 1);
        due("the one alone, last", x.hour(23, 4), 0);
        CHECKS.sentence("CAN: .. FREE then, whatever their KIND would do.");
        TwinTools y = new TwinTools();
        y.person(LATE, 9, 0);
        y.person(LIFTING, 1, 0);
        y.person(BELL, 0, 1);
        y.free(0, 2);
        y.free(1, 0);
        y.free(2, 2);
        Checks.pairs(y, 0, 1, 0, 2);
        due("LATE is FREE in its own hours, BELL without its bell", y.hour(1, 4), 1);
        due("and not when it comes", y.hour(10, 4), 0);
        due("LIFTING only if FREE", y.hour(2, 4), 0);
    }

    private static void canNobodyTwice() {
        CHECKS.sentence("CAN: .. nobody twice.");
        TwinTools x = hands(3);
        Checks.pairs(x, 0, 1, 1, 2, 2, 0);
        Checks.valley(x, "worth 2 t=0;worth 3 t=2;worth 2 t=4");
        due("most", x.hour(0, 2), 3);
        due("its set", x.hour(0, 3), 4);
        due("many", x.hour(0, 4), 1);
        x.person(HAND, 0, 0);
        x.free(3, ALL);
        x.give(5, 3);
        due("one more, most", x.hour(0, 2), 4);
        due("one more, its set", x.hour(0, 3), 1 | 16);
        due("one more, many", x.hour(0, 4), 2);
    }

    private static void mostOfNone() {
        CHECKS.sentence("MOST: the greatest WORTH of such a set (0: of none).");
        TwinTools x = hands(4);
        due("no pairs", x.hour(0, 2), 0);
        due("no pairs, set", x.hour(0, 3), 0);
        Checks.pairs(x, 0, 1, 2, 3);
        Checks.valley(x, "less 1 h<24");
        due("all below 0", x.hour(0, 2), 0);
        due("all below 0, set", x.hour(0, 3), 0);
        due("all below 0, many", x.hour(0, 4), 2);
        Checks.valley(x, "worth 1 t=2;less 1 t=0");
        due("one below 0", x.hour(0, 2), 1);
        due("one below 0, set", x.hour(0, 3), 4);
        Checks.valley(x, "worth 1 t=0;less 1 t=2");
        due("the other one below 0, set", x.hour(0, 3), 1);
        due("the other one below 0, many", x.hour(0, 4), 2);
    }

    private static void mostOfSeveral() {
        CHECKS.sentence("MOST: .. of several the least as bits of lesser TOOLS.");
        TwinTools x = hands(4);
        Checks.pairs(x, 0, 1, 2, 3);
        due("nothing is less than worth nothing", x.hour(0, 3), 0);
        Checks.valley(x, "worth 1 t=2");
        due("0 worth nothing", x.hour(0, 3), 4);
        Checks.valley(x, "worth 1 t=0");
        due("2 worth nothing", x.hour(0, 3), 1);
        TwinTools y = hands(8);
        // Pairs 0 (people 0 1), 2 (2 3), 4 (0 2), 6 (4 5), 8 (4 6).
        Checks.pairs(y, 0, 1, 2, 3, 0, 2, 4, 5, 4, 6);
        Checks.valley(y, "worth 2 t<4;worth 4 t=4;worth 7 t>5");
        due("two small ones or a large one; one of two alike", y.hour(0, 3), 1 | 4 | 64);
        due("together", y.hour(0, 2), 11);
        Checks.valley(y, "worth 2 t<4;worth 5 t=4;worth 7 t=6;worth 8 t=8");
        due("the greatest, not the least", y.hour(0, 3), 16 | 256);
        due("together", y.hour(23, 2), 13);
        y.twin(1, 2);
        // Pairs 1 (people 1 2), 4 (0 2), 6, 8; the TOOLS 0 and 3 have no TWINS.
        Checks.valley(y, "worth 3 t<5;worth 1 t>5");
        due("lesser TOOLS, not places", y.hour(0, 3), 2 | 64);
    }

    private static void many() {
        CHECKS.sentence("MANY: how many PAIRS the largest such set has.");
        TwinTools x = new TwinTools();
        due("nobody", x.hour(0, 4), 0);
        TwinTools y = hands(8);
        due("no pairs", y.hour(0, 4), 0);
        // Nine and ten take the place of others, so four of five are the most.
        Checks.pairs(y, 0, 1, 2, 3, 4, 5, 6, 7, 0, 7);
        due("four", y.hour(0, 4), 4);
        y.broken(0, true);
        due("three: 8 9 and 2 3 and 4 5", y.hour(0, 4), 3);
        y.free(2, ALL - LAST);
        due("two in the last hour", y.hour(23, 4), 2);
        due("three ahead", y.hour(22, 4), 3);
        TwinTools z = hands(2);
        Checks.pairs(z, 0, 1, 0, 1, 1, 0, 0, 1, 1, 0);
        due("five pairs of two people", z.hour(0, 4), 1);
    }

    private static void emptyDay() {
        CHECKS.sentence("16: THE DAY of nobody.");
        TwinTools x = new TwinTools();
        due("day(0)", x.day(0), 0);
        due("day(1)", x.day(1), 0);
        due("day(2)", x.day(2), 0);
        due("day(3)", x.day(3), 6);
    }

    private static void allWorthAndWaiting() {
        CHECKS.sentence("ALL WORTH: of PAIRS that GO, by HOURS, together.");
        TwinTools x = hands(4);
        Checks.pairs(x, 0, 1, 2, 3);
        Checks.valley(x, "worth 1 h=0;worth 10 h=23;less 5 t=2");
        due("all hours, two pairs", x.day(0), 2 + 20 - 24 * 5);
        x.free(0, FIRST);
        x.free(2, LAST);
        due("one in the first, one in the last", x.day(0), 1 + 10 - 5);
        x.free(2, 1 << 22);
        due("one in the first, one ahead of the last", x.day(0), 1 - 5);
        CHECKS.sentence("WAITING: how often a TOOL WAITS, of all HOURS together.");
        due("both others, but once each", x.day(1), 23 + 23);
        x.free(0, 0);
        x.free(1, LAST);
        due("once in the last hour", x.day(1), 1 + 23);
        x.free(1, FIRST);
        due("once in the first hour", x.day(1), 1 + 23);
        TwinTools y = hands(8);
        Checks.pairs(y, 0, 0, 1, 1, 2, 2, 3, 3, 4, 4);
        due("five always, three have none", y.day(1), 5 * 24);
    }

    /** Those who come whether they are FREE then or not must not come in a 25th HOUR. */
    private static void hoursAreTwentyFour() {
        CHECKS.sentence("HOURS: 24, for LIFTING and LATE too.");
        int[][] sorts = {{LIFTING, 0}, {LATE, ALL}};
        for (int[] sort : sorts) {
            TwinTools x = new TwinTools();
            x.person(sort[0], 0, 0);
            x.person(sort[0], 1, 0);
            x.free(0, sort[1]);
            x.free(1, sort[1]);
            Checks.pairs(x, 0, 1);
            Checks.valley(x, "worth 3 h<24");
            due("kind " + sort[0] + ", GONE", x.of(0, 4), ALL);
            due("kind " + sort[0] + ", ALL WORTH", x.day(0), 24 * 3);
            due("kind " + sort[0] + ", WAITING", x.day(1), 0);
            x.broken(1, true);
            due("kind " + sort[0] + ", GONE of a BROKEN one's", x.of(0, 4), 0);
            due("kind " + sort[0] + ", WAITING", x.day(1), 24);
        }
    }

    private static void bestDay() {
        CHECKS.sentence("BEST DAY: MOST of all HOURS, together.");
        TwinTools x = hands(3);
        Checks.pairs(x, 0, 1, 1, 2);
        Checks.valley(x, "worth 3 h=0&t=0;worth 4 h=0&t=2;worth 5 h=23&t=0;worth 1 h=23&t=2;less 9 h=12");
        due("the best of each", x.day(2), 4 + 5);
        x.free(0, FIRST);
        due("not 0 1 in the last", x.day(2), 4 + 1);
        x.free(2, 0);
        due("0 1 alone, in the first", x.day(2), 3);
        x.free(1, ALL - 1);
        due("none", x.day(2), 0);
    }

    private static void dayRefused() {
        CHECKS.sentence("16: -10001: NONE.");
        TwinTools x = hands(1);
        int[] whats = {-1, 4, LOW, HIGH};
        for (int what : whats) {
            due("day(" + what + ")", x.day(what), NO_SUM);
        }
    }

    private static void noChange(String why, TwinTools x) {
        due(why + ", one", x.change(0), NOTHING);
        due(why + ", other", x.change(1), NOTHING);
        due(why + ", more", x.change(2), 0);
    }

    private static void changeNone() {
        CHECKS.sentence("CHANGE: (.. -5: none by which it is more than it is); 2 how much more (0 without).");
        noChange("nobody", new TwinTools());
        noChange("no TOOLS", hands(2));
        TwinTools x = hands(2);
        x.tool(0, 0);
        noChange("one TOOL", x);
        x.tool(0, 1);
        noChange("no PAIRS", x);
        x.twin(0, 1);
        noChange("worth nothing", x);
        Checks.valley(x, "worth 1 h<24");
        noChange("as much as it is", x);
        Checks.valley(x, "worth 9 k=0;worth 1 k=1");
        x.person(BELL, 0, 0);
        x.free(2, ALL);
        x.tool(0, 2);
        noChange("less than it is, or as much", x);
        x.free(1, 0);
        due("more than it is", x.change(2), 9 * 24);
        x.free(1, Checks.ALL_HOURS);
        noChange("no longer more than it is", x);
        CHECKS.sentence("CHANGE: the two TOOLS .., held by unlike PEOPLE.");
        TwinTools y = hands(2);
        Checks.pairs(y, 0, 0, 0, 0);
        Checks.valley(y, "worth 1 h<24");
        noChange("one holds all", y);
        y.tool(0, 1);
        due("one more, held by another one", y.change(0), 0);
        due("the other", y.change(1), 4);
        due("more", y.change(2), 24);
    }

    private static void changeOfSeveral() {
        CHECKS.sentence("CHANGE: .. (of several the least first one, then the least other one).");
        TwinTools x = hands(3);
        x.free(0, 0xfff);
        x.free(2, 0xfff000);
        // TOOLS 0 and 1 never meet; 2 and 3 are held by one who is always there.
        Checks.pairs(x, 0, 2);
        x.tool(0, 1);
        x.tool(0, 1);
        Checks.valley(x, "worth 1 h<24");
        due("least first one", x.change(0), 0);
        due("least other one", x.change(1), 2);
        due("more", x.change(2), 12);
        x.free(2, 0xffe000);
        due("the greatest, not the least", x.change(0), 1);
        due("the greatest, least other one", x.change(1), 2);
        due("the greatest, more", x.change(2), 12);
        x.free(0, 0x7fe);
        due("the least again", x.change(0), 0);
        due("the least again, more", x.change(2), 11);
    }

    private static void changeOfLast() {
        CHECKS.sentence("CHANGE: .. (the lesser number first): the last ones too.");
        TwinTools x = hands(4);
        x.free(3, 0);
        for (int t = 0; t < 8; t++) {
            x.tool(0, 3);
        }
        x.tool(0, 0);
        x.tool(0, 3);
        x.twin(8, 7);
        x.give(9, 1);
        Checks.valley(x, "worth 2 h=23");
        due("before", x.day(2), 0);
        due("one", x.change(0), 7);
        due("other", x.change(1), 9);
        due("more", x.change(2), 2);
        due("nothing is changed", x.of(7, 1) * 10 + x.of(9, 1), 31);
        due("nothing is changed", x.day(2), 0);
    }

    private static void changeRefused() {
        CHECKS.sentence("17: NONE.");
        TwinTools x = hands(2);
        Checks.pairs(x, 0, 1);
        int[] whats = {-1, 3, LOW, HIGH};
        for (int what : whats) {
            due("change(" + what + ")", x.change(what), NONE);
        }
        due("of nobody", new TwinTools().change(3), NONE);
    }

    private static void away() {
        CHECKS.sentence("AWAY: by how much BEST DAY would be less, if that one were never FREE.");
        TwinTools x = hands(8);
        Checks.pairs(x, 0, 7, 0, 6);
        Checks.valley(x, "worth 5 t=0;worth 3 t=2");
        due("the first, in both", x.away(0), 24 * 5);
        due("the last, which another one stands in for", x.away(7), 24 * 2);
        due("one that is not in the best", x.away(6), 0);
        due("one who holds nothing", x.away(3), 0);
        x.free(0, LAST);
        due("one hour", x.away(0), 5);
        x.free(0, 0);
        due("never FREE as it is", x.away(0), 0);
        CHECKS.sentence("18: -10001: NONE.");
        int[] people = {-1, 8, LOW, HIGH};
        for (int p : people) {
            due("away(" + p + ")", x.away(p), NO_SUM);
        }
        due("of nobody", new TwinTools().away(0), NO_SUM);
    }

    private static void worst() {
        CHECKS.sentence("WORST: .. (-5: nobody is there).");
        due("nobody", new TwinTools().worst(), NOTHING);
        due("one alone, without TOOLS", hands(1).worst(), 0);
        CHECKS.sentence("WORST: the one with the most AWAY (of several the least).");
        TwinTools x = hands(8);
        due("nobody is missed", x.worst(), 0);
        Checks.pairs(x, 7, 6, 5, 6);
        Checks.valley(x, "worth 2 t=0;worth 1 t=2");
        due("in both", x.worst(), 6);
        Checks.valley(x, "worth 2 t=0");
        due("two alike", x.worst(), 6);
        x.give(1, 7);
        x.give(3, 4);
        Checks.valley(x, "worth 2 t=2");
        due("two alike, others", x.worst(), 4);
        x.give(1, 1);
        Checks.valley(x, "worth 2 t=0;worth 1 t=2");
        due("1 and 7, and not the least of all", x.worst(), 1);
        x.give(3, 7);
        due("the last one, by what only it could do", x.worst(), 7);
    }

    private static void joinSizes() {
        CHECKS.sentence("JOIN: .. (6 TOOLS at most, an even number; else -9).");
        TwinTools x = hands(2);
        for (int n = 0; n <= 10; n++) {
            boolean can = n == 0 || n == 2 || n == 4 || n == 6;
            due(n + " TOOLS, join(-1)", x.join(-1), can ? 0 : UNJOINED);
            for (int k = 0; k < n; k++) {
                due(n + " TOOLS, join(" + k + ")", x.join(k), can ? k ^ 1 : UNJOINED);
            }
            x.tool(0, n % 2);
        }
    }

    private static void joinOfSeveral() {
        CHECKS.sentence("JOIN: .. of several the first as a row (of TWINS, by TOOLS).");
        TwinTools x = hands(4);
        // TOOLS 0 1 2 held by one, 3 4 5 by others: any of 3 4 5 will do for the first pair.
        for (int holder : new int[] {0, 0, 0, 1, 2, 3}) {
            x.tool(0, holder);
        }
        Checks.valley(x, "worth 1 t=0;worth 1 t=3|t=4");
        // At best 0 goes with one of 3 4 5, and the other two with each other.
        int[] row = {3, 2, 1, 0, 5, 4};
        due("best day", x.join(-1), 48);
        for (int k = 0; k < 6; k++) {
            due("join(" + k + ")", x.join(k), row[k]);
        }
        x.twin(0, 5);
        x.twin(1, 4);
        due("whatever TWINS there are", x.join(0), 3);
        due("which stay as they are", x.of(0, 2), 5);
        due("those too that have none", x.of(3, 2), NOTHING);
        x.broken(3, true);
        due("two alike, the first", x.join(0), 1);
        due("best day then", x.join(-1), 24);
        Checks.valley(x, "worth 1 t=0");
        due("not with a BROKEN one", x.join(0), 4);
        due("the rest as it comes first", x.join(1) * 10 + x.join(3), 25);
    }

    private static void joinBest() {
        CHECKS.sentence("JOIN: .. that by which BEST DAY is greatest: the last row of all.");
        TwinTools x = hands(6);
        for (int t = 0; t < 6; t++) {
            x.tool(0, t);
            x.free(t, 1 << Math.min(t, 5 - t));
        }
        Checks.valley(x, "worth 7 h<24");
        due("best day", x.join(-1), 21);
        for (int k = 0; k < 6; k++) {
            due("join(" + k + ")", x.join(k), 5 - k);
        }
        CHECKS.sentence("JOIN: all TOOLS .., each with another one: with none that is not there.");
        TwinTools y = hands(3);
        y.free(2, 0);
        for (int holder : new int[] {1, 2, 2, 2, 2, 2}) {
            y.tool(0, holder);
        }
        Checks.valley(y, "worth 7 h<24");
        due("one alone is there to work", y.join(-1), 0);
        due("so the first row", y.join(0), 1);
        CHECKS.sentence("JOIN: .. greatest, though not more than 0.");
        Checks.valley(x, "less 7 h<24");
        due("best day", x.join(-1), 0);
        due("the first row", x.join(5), 4);
    }

    /** What would be best is reckoned by the same WORTH as what is. */
    private static void bestByEachTest() {
        CHECKS.sentence("CHANGE, AWAY, JOIN: BEST DAY by h, s, t, k, x alike.");
        String[] tests = {"h=23", "s=3", "t=0", "k=1", "x=0"};
        int[] worths = {1, 24, 24, 24, 24};
        for (int i = 0; i < tests.length; i++) {
            TwinTools x = new TwinTools();
            x.person(BELL, 0, 1);
            x.person(HAND, 0, 2);
            x.person(HAND, 0, 2);
            x.free(0, ALL);
            x.free(2, ALL);
            x.tool(3, 0);
            x.tool(1, 1);
            x.tool(2, 2);
            x.twin(0, 1);
            Checks.valley(x, "worth 1 " + tests[i]);
            due(tests[i] + ", as it is", x.day(2), 0);
            due(tests[i] + ", change", x.change(2), worths[i]);
            due(tests[i] + ", change, the one", x.change(0) * 10 + x.change(1), 12);
            x.free(1, ALL);
            due(tests[i] + ", away", x.away(1), worths[i]);
            due(tests[i] + ", worst", x.worst(), 0);
            x.tool(0, 2);
            due(tests[i] + ", join", x.join(-1), worths[i]);
        }
    }

    private static void joinRefused() {
        CHECKS.sentence("20: -10001: NONE: k; -9: the first one told.");
        TwinTools x = hands(1);
        due("no TOOLS", x.join(0), NO_SUM);
        for (int n = 1; n <= 10; n++) {
            x.tool(0, 0);
            due(n + " TOOLS, k " + n, x.join(n), NO_SUM);
            due(n + " TOOLS, k -2", x.join(-2), NO_SUM);
        }
        due("k LOW", x.join(LOW), NO_SUM);
        due("k HIGH", x.join(HIGH), NO_SUM);
    }
}
