/** Each promise by itself: ordinary calls, the edges that the document names, wrong arguments. */
public final class PromisesTest {
    private static final int NONE = -1, BAD = -2, STATE = -3, FULL = -4, NOTHING = -5;
    private static final int ALL = (1 << 24) - 1;
    private static final int LOW = Integer.MIN_VALUE, HIGH = Integer.MAX_VALUE;
    private static final int HAND = 0, BELL = 1, HOME = 2, GUESSING = 3, LIFTING = 4, LATE = 5, TOLD = 6;
    private static final Checks CHECKS = new Checks();

    public static void main(String[] args) {
        newObject();
        feed();
        valley();
        valleyBehindFault();
        valleyFaults();
        valleyLimits();
        person();
        free();
        row();
        tool();
        twin();
        broken();
        give();
        of();
        who();
        atHand();
        atBell();
        atHome();
        atGuessing();
        atLifting();
        atLate();
        atTold();
        worth();
        worthOfTests();
        hour();
        hourSets();
        day();
        change();
        awayAndWorst();
        join();
        trialAndClear();
        find();
        fits();
        once();
        bookAndLooked();
        acts();
        as();
        imageAndUndo();
        anewBehindUndo();
        count();
        wildArguments();
        CHECKS.end("PromisesTest");
    }

    private static void due(String call, long got, long want) {
        CHECKS.due(call, got, want);
    }

    private static void newObject() {
        TwinTools x = new TwinTools();
        for (int what = 0; what < 7; what++) {
            due("1 count(" + what + ")", x.count(what), 0);
        }
        due("1 day(3)", x.day(3), 6);
        due("1 day(1)", x.day(1), 0);
        due("1 hour(23, 4)", x.hour(23, 4), 0);
        due("1 undo()", x.undo(), STATE);
        due("1 at(0, 0)", x.at(0, 0), NONE);
        due("1 trace(0)", x.trace(0), NONE);
    }

    private static void feed() {
        TwinTools x = new TwinTools();
        due("2 feed(0)", x.feed(0), 1);
        due("2 feed(127)", x.feed(127), 2);
        due("2 feed(-1)", x.feed(-1), BAD);
        due("2 feed(128)", x.feed(128), BAD);
        due("2 count(5)", x.count(5), 2);
        for (int i = 3; i <= 100; i++) {
            due("2 feed(32)", x.feed(32), i);
        }
        due("2 feed(32) full", x.feed(32), FULL);
        due("2 feed(200) full", x.feed(200), BAD);
        due("2 count(5) full", x.count(5), 100);
    }

    private static void valley() {
        TwinTools x = new TwinTools();
        due("3 first", Checks.valley(x, "bell 3"), 0);
        due("3 tape is empty", x.count(5), 0);
        due("3 bell", x.day(3), 3);
        due("3 fault", Checks.valley(x, "bell x"), -15);
        due("3 tape is empty behind a fault", x.count(5), 0);
        due("3 the one that held holds", x.day(3), 3);
        due("3 second", Checks.valley(x, "worth 1 h=1"), 1);
        due("3 bell without", x.day(3), 6);
        due("3 third", Checks.valley(x, "bell 9;bell 0;worth 0 x=0"), 2);
        due("3 bell 0 is 1", x.day(3), 1);
        due("3 fourth", Checks.valley(x, "bell 7;bell 99"), 3);
        due("3 the last bell", x.day(3), 99);
        due("3 fifth", Checks.valley(x, "bell 5"), 4);
        Checks.feed(x, "bell 8");
        due("3 full", x.valley(), FULL);
        due("3 tape stays", x.count(5), 6);
        due("3 full holds", x.day(3), 5);
        due("3 count(2)", x.count(2), 5);
        Checks.feed(x, "?");
        due("3 full with a faulty tape", x.valley(), FULL);
    }

    private static void valleyBehindFault() {
        TwinTools x = Checks.people(HAND, HAND);
        Checks.pairs(x, 0, 1);
        due("3 fault at the end", Checks.valley(x, "worth 7 h=0;bell 2;worth 8 h=1;"), -10 - 31);
        due("3 anew", Checks.valley(x, "less 5 h=1"), 0);
        due("3 nothing is left of the faulty one", x.worth(0, 0), 0);
        due("3 the new one alone", x.worth(0, 1), -5);
        due("3 nor its bell", x.day(3), 6);
    }

    private static void fault(String text, int place) {
        due("3 fault of '" + text + "'", Checks.valley(new TwinTools(), text), -10 - place);
    }

    private static void sound(String text) {
        due("3 '" + text + "'", Checks.valley(new TwinTools(), text), 0);
    }

    private static void valleyFaults() {
        fault("", 0);
        fault(" ", 0);
        fault(";", 0);
        fault("w", 1);
        fault("wo1", 2);
        fault("lesS 1 h=1", 3);
        fault("bella", 4);
        fault("bell", 4);
        fault("bell ", 5);
        fault("bell  1", 5);
        fault("bell 00", 6);
        fault("bell 01", 6);
        fault("bell 1 ", 6);
        fault("bell 1;;", 7);
        fault("bell 1; bell 1", 7);
        fault("bell 1 h=1", 6);
        fault("worth 5", 7);
        fault("worth 5;", 7);
        fault("worth 123 h=1", 8);
        fault("worth 5 ", 8);
        fault("worth 5  h=1", 8);
        fault("worth 5 h", 9);
        fault("worth 5 h!1", 9);
        fault("worth 5 h=", 10);
        fault("worth 5 h==1", 10);
        fault("worth 5 h=01", 11);
        fault("worth 5 h=123", 12);
        fault("worth 5 h=1)", 11);
        fault("worth 5 (h=1", 12);
        fault("worth 5 (h=1;", 12);
        fault("worth 5 ()", 9);
        fault("worth 5 h=1&", 12);
        fault("worth 5 h=1|&", 12);
        fault("worth 5 !", 9);
        fault("worth 5 h=1!", 11);
        fault("worth 5 h=1(", 11);
        fault("worth 5 y=1", 8);
        fault("worth 5 h=1" + (char) 0, 11);
        sound("bell 10");
        sound("worth 0 h=0;less 99 x>99");
        sound("worth 5 !(h=1&!s<2|t>3)&(k=4|x=1)");
    }

    private static void valleyLimits() {
        sound("worth 5 !!!!!h=1&!!!!!h=2");
        sound("worth 5 (((((h=1)))))|(((((h=1)))))");
        sound("worth 5 !(!(!h=1))");
        sound("worth 5 !(!(!h=1&!h=2))");
        fault("worth 5 ((((((h=1))))))", 13);
        fault("worth 5 !(!(!(h=1)))", 13);
        fault("worth 5 (((((!h=1)))))", 13);
        fault("worth 5 (!!h=1&!!(((h=1)))))", 19);
        sound("bell 1;bell 2;bell 3;bell 4;bell 5;bell 6;bell 7;bell 8;bell 9;bell 0");
        fault("bell 1;bell 2;bell 3;bell 4;bell 5;bell 6;bell 7;bell 8;bell 9;bell 0;bell 1", 69);
        StringBuilder s = new StringBuilder("worth 10 h=10");
        while (s.length() < 97) {
            s.append("&h=1");
        }
        sound(s.toString());
        due("3 100 signs", s.append("0&(").length(), 100);
        fault(s.toString(), 100);
    }

    private static void person() {
        TwinTools x = new TwinTools();
        due("4 kind -1", x.person(-1, 0, 0), NONE);
        due("4 kind 7", x.person(7, 10, 4), NONE);
        due("4 v -1", x.person(0, -1, 0), BAD);
        due("4 v 10", x.person(0, 10, 0), BAD);
        due("4 house -1", x.person(0, 0, -1), BAD);
        due("4 house 4", x.person(0, 0, 4), BAD);
        for (int i = 0; i < 8; i++) {
            due("4 person", x.person(i % 7, 9, 3), i);
        }
        due("4 full", x.person(0, 0, 0), FULL);
        due("4 full, kind", x.person(7, 0, 0), NONE);
        due("4 full, v", x.person(0, 10, 0), BAD);
        due("4 count", x.count(0), 8);
    }

    private static void free() {
        TwinTools x = new TwinTools();
        due("5 nobody", x.free(0, 0), NONE);
        x.person(0, 0, 0);
        due("5 none at first", x.free(0, 7), 0);
        due("5 was 3", x.free(0, ALL), 3);
        due("5 too many", x.free(0, 1 << 24), BAD);
        due("5 below 0", x.free(0, -1), BAD);
        due("5 nobody, bad", x.free(1, -1), NONE);
        due("5 was 24", x.free(0, 0), 24);
    }

    private static void row() {
        TwinTools x = Checks.people(TOLD, GUESSING);
        due("6 first", x.row(0, 3, 0), NOTHING);
        due("6 again", x.row(0, 3, 9), 0);
        due("6 nothing", x.row(0, 3, -1), 9);
        due("6 was nothing", x.row(0, 3, 1), NOTHING);
        due("6 other part", x.row(0, 0, 1), NOTHING);
        due("6 person", x.row(2, 0, 10), NONE);
        due("6 part 4", x.row(1, 4, 10), NONE);
        due("6 part -1", x.row(0, -1, 0), NONE);
        due("6 tool 10", x.row(1, 0, 10), BAD);
        due("6 tool -2", x.row(0, 0, -2), BAD);
        due("6 kind", x.row(1, 0, 0), STATE);
        due("6 kept", x.row(0, 3, -1), 1);
    }

    private static void tool() {
        TwinTools x = new TwinTools();
        due("7 nobody", x.tool(4, 0), NONE);
        x.person(0, 0, 0);
        due("7 sort 4", x.tool(4, 0), BAD);
        due("7 sort -1", x.tool(-1, 0), BAD);
        for (int i = 0; i < 10; i++) {
            due("7 tool", x.tool(i % 4, 0), i);
        }
        due("7 full", x.tool(0, 0), FULL);
        due("7 full, sort", x.tool(4, 0), BAD);
        due("7 full, nobody", x.tool(0, 1), NONE);
        due("7 no twin", x.of(9, 2), NOTHING);
        due("7 not broken", x.of(9, 3), 0);
    }

    private static void twin() {
        TwinTools x = Checks.people(HAND);
        Checks.pairs(x, 0, 0, 0, 0);
        due("8 were", x.twin(1, 0), 1);
        due("8 were not", x.twin(1, 2), 0);
        due("8 0 has none", x.of(0, 2), NOTHING);
        due("8 3 has none", x.of(3, 2), NOTHING);
        due("8 1 has 2", x.of(1, 2), 2);
        due("8 2 has 1", x.of(2, 2), 1);
        due("8 without", x.twin(0, 3), 0);
        due("8 one", x.twin(1, 1), BAD);
        due("8 no a", x.twin(4, 4), NONE);
        due("8 no b", x.twin(0, -1), NONE);
        due("8 kept", x.of(0, 2), 3);
    }

    private static void broken() {
        TwinTools x = Checks.people(HAND);
        Checks.pairs(x, 0, 0);
        due("9 was not", x.broken(1, true), 0);
        due("9 was", x.broken(1, true), 1);
        due("9 is", x.of(1, 3), 1);
        due("9 other is not", x.of(0, 3), 0);
        due("9 mended", x.broken(1, false), 1);
        due("9 was mended", x.broken(1, false), 0);
        due("9 none", x.broken(2, true), NONE);
    }

    private static void give() {
        TwinTools x = Checks.people(HAND, HAND);
        x.tool(0, 0);
        due("10 from 0", x.give(0, 1), 0);
        due("10 to the same", x.give(0, 1), 1);
        due("10 is held", x.of(0, 1), 1);
        due("10 no tool", x.give(1, 0), NONE);
        due("10 nobody", x.give(0, 2), NONE);
    }

    private static void of() {
        TwinTools x = Checks.people(HAND, HAND);
        x.free(1, 5);
        x.tool(3, 1);
        x.tool(2, 0);
        x.tool(1, 0);
        x.twin(0, 1);
        due("11 sort", x.of(0, 0), 3);
        due("11 holder", x.of(0, 1), 1);
        due("11 twin", x.of(0, 2), 1);
        due("11 no twin", x.of(2, 2), NOTHING);
        due("11 broken", x.of(0, 3), 0);
        due("11 gone", x.of(0, 4), 5);
        due("11 gone of the greater", x.of(1, 4), 5);
        due("11 gone without", x.of(2, 4), 0);
        x.broken(1, true);
        due("11 gone of a broken one's", x.of(0, 4), 0);
        due("11 what 5", x.of(0, 5), NONE);
        due("11 what -1", x.of(0, -1), NONE);
        due("11 tool", x.of(3, 0), NONE);
    }

    private static void who() {
        TwinTools x = new TwinTools();
        x.person(LATE, 7, 2);
        x.free(0, 9);
        x.tool(0, 0);
        x.tool(0, 0);
        due("12 kind", x.who(0, 0), LATE);
        due("12 v", x.who(0, 1), 7);
        due("12 house", x.who(0, 2), 2);
        due("12 free", x.who(0, 3), 9);
        due("12 holds", x.who(0, 4), 2);
        due("12 what 5", x.who(0, 5), NONE);
        due("12 what -1", x.who(0, -1), NONE);
        due("12 nobody", x.who(1, 0), NONE);
    }

    private static void atHand() {
        TwinTools x = Checks.people(HAND, HAND);
        x.free(0, 2);
        x.tool(0, 0);
        Checks.pairs(x, 0, 0);
        x.twin(1, 2);
        due("13 hand", x.at(0, 1), 1);
        due("13 hand not free", x.at(0, 0), NOTHING);
        due("13 hand holds nothing", x.at(1, 1), NOTHING);
        x.broken(1, true);
        due("13 hand, broken", x.at(0, 1), 2);
        due("13 hour 24", x.at(0, 24), NONE);
        due("13 hour -1", x.at(0, -1), NONE);
        due("13 person", x.at(2, 0), NONE);
    }

    private static void atBell() {
        TwinTools x = Checks.people(BELL, HAND);
        x.free(0, ALL - (1 << 12));
        Checks.pairs(x, 0, 1, 0, 1, 0, 1);
        due("13 bell, none dearer", x.at(0, 0), 0);
        due("13 bell without a valley", x.at(0, 6), 0);
        due("13 bell, no multiple", x.at(0, 5), NOTHING);
        due("13 bell, not free", x.at(0, 12), NOTHING);
        Checks.valley(x, "worth 5 t>1&h>3;less 9 h=8;bell 4");
        due("13 bell, least of the dearest", x.at(0, 4), 2);
        due("13 bell, hour 0", x.at(0, 0), 0);
        due("13 bell, worth below 0", x.at(0, 8), 2);
        due("13 bell, no multiple of 4", x.at(0, 6), NOTHING);
        x.broken(2, true);
        due("13 bell, broken", x.at(0, 4), 4);
        x.broken(5, true);
        due("13 bell, the twin may be broken", x.at(0, 4), 4);
        Checks.valley(x, "bell 0");
        due("13 bell 0 is 1", x.at(0, 13), 0);
    }

    private static void atHome() {
        TwinTools x = new TwinTools();
        x.person(HOME, 0, 1);
        x.person(HAND, 0, 0);
        x.person(HAND, 0, 1);
        x.free(0, 3);
        Checks.pairs(x, 0, 1, 0, 2);
        due("13 home", x.at(0, 0), 2);
        due("13 home, not free", x.at(0, 2), NOTHING);
        x.give(3, 1);
        due("13 home, as hand", x.at(0, 0), 0);
        x.give(3, 0);
        due("13 home, both its own", x.at(0, 0), 2);
        x.broken(2, true);
        due("13 home, the other one of its own", x.at(0, 1), 3);
        TwinTools y = new TwinTools();
        y.person(HOME, 0, 1);
        y.person(HAND, 0, 2);
        y.free(0, 1);
        y.tool(0, 0);
        y.tool(0, 0);
        y.tool(0, 0);
        y.tool(0, 1);
        y.twin(0, 2);
        y.twin(1, 3);
        due("13 home, tool 0", y.at(0, 0), 0);
    }

    private static void atGuessing() {
        TwinTools x = Checks.people(GUESSING, HAND, HAND);
        x.free(1, 1);
        x.free(2, 3);
        Checks.pairs(x, 0, 1, 0, 2, 0, 0);
        Checks.valley(x, "worth 2 t=0;worth 1 t=2;worth 9 t=4");
        due("13 guessing, most worth", x.at(0, 0), 0);
        due("13 guessing, the other one is free", x.at(0, 1), 2);
        due("13 guessing, nobody is free", x.at(0, 2), NOTHING);
        x.broken(0, true);
        due("13 guessing, broken", x.at(0, 0), 2);
        x.free(0, 0);
        due("13 guessing, not free", x.at(0, 0), NOTHING);
    }

    private static void atLifting() {
        TwinTools x = new TwinTools();
        x.person(LIFTING, 2, 0);
        x.person(HAND, 0, 0);
        Checks.pairs(x, 0, 1, 0, 1);
        x.free(0, 1 << 6 | 1);
        due("13 lifting as bell", x.at(0, 6), 0);
        due("13 lifting, no bell", x.at(0, 5), 2);
        due("13 lifting, not free at the bell", x.at(0, 12), 2);
        x.broken(2, true);
        due("13 lifting, broken", x.at(0, 5), NOTHING);
        x.broken(2, false);
        x.give(2, 1);
        due("13 lifting, not held", x.at(0, 5), NOTHING);
        TwinTools y = new TwinTools();
        y.person(LIFTING, 9, 0);
        y.tool(0, 0);
        due("13 lifting, no such tool", y.at(0, 0), NOTHING);
    }

    private static void atLate() {
        TwinTools x = new TwinTools();
        x.person(LATE, 9, 3);
        x.person(HAND, 0, 3);
        x.person(HAND, 0, 0);
        Checks.pairs(x, 0, 2, 0, 1);
        x.free(0, 1 | 1 << 23 | 1 << 15);
        due("13 late, 0 ahead of 9", x.at(0, 9), 2);
        due("13 late, 23 ahead of 8", x.at(0, 8), 2);
        due("13 late, 15 ahead of 0", x.at(0, 0), 2);
        due("13 late, not then", x.at(0, 23), NOTHING);
        x.broken(2, true);
        due("13 late, as hand", x.at(0, 9), 0);
    }

    private static void atTold() {
        TwinTools x = Checks.people(TOLD, HAND);
        Checks.pairs(x, 0, 1, 0, 1);
        x.tool(0, 0);
        x.row(0, 1, 2);
        x.row(0, 2, 4);
        x.row(0, 3, 3);
        due("13 told nothing", x.at(0, 0), 0);
        Checks.valley(x, "worth 1 t=2");
        due("13 told nothing, by worth", x.at(0, 0), 2);
        x.row(0, 0, 0);
        due("13 told 0", x.at(0, 0), 0);
        x.row(0, 0, -1);
        Checks.valley(x, "bell 1");
        due("13 told", x.at(0, 1), 2);
        due("13 told, hour 21", x.at(0, 21), 2);
        due("13 told, without a twin", x.at(0, 2), 4);
        due("13 told, not held", x.at(0, 3), 0);
        x.broken(2, true);
        due("13 told, broken", x.at(0, 1), 2);
        due("13 told, broken, waits", x.hour(1, 1), 2 | 4);
        x.row(0, 0, 9);
        due("13 told what is not there", x.at(0, 4), 0);
        x.free(0, 0);
        due("13 told, not free", x.at(0, 1), NOTHING);
    }

    private static void worth() {
        TwinTools x = Checks.people(HAND, HAND);
        Checks.pairs(x, 0, 1);
        x.tool(0, 0);
        due("14 without a valley", x.worth(0, 0), 0);
        Checks.valley(x, "worth 5 h<3;less 7 h=2|h=4;worth 1 h>22");
        int[] want = {5, 5, -2, 0, -7};
        for (int h = 0; h < 5; h++) {
            due("14 hour " + h, x.worth(0, h), want[h]);
            due("14 of the twin, hour " + h, x.worth(1, h), want[h]);
        }
        due("14 hour 23", x.worth(0, 23), 1);
        due("14 without a twin", x.worth(2, 0), -10001);
        due("14 no tool", x.worth(3, 0), -10001);
        due("14 hour 24", x.worth(0, 24), -10001);
        due("14 hour -1", x.worth(0, -1), -10001);
        Checks.valley(x, "bell 1");
        due("14 the newest holds", x.worth(0, 0), 0);
    }

    private static int worthBy(String e, int hour) {
        TwinTools x = new TwinTools();
        x.person(LATE, 0, 1);
        x.person(BELL, 0, 1);
        x.person(HAND, 0, 2);
        x.tool(0, 2);
        x.tool(3, 1);
        x.tool(2, 0);
        x.tool(1, 2);
        x.twin(2, 1);
        x.twin(0, 3);
        Checks.valley(x, "worth 1 " + e);
        return x.worth(2, hour);
    }

    /** As many parts as can be left waiting for their other one. */
    private static String deepest(int last) {
        StringBuilder s = new StringBuilder();
        for (int i = 0; i < 5; i++) {
            s.append("h=9|h=0&(");
        }
        return s.append("h=9|h=0&h=").append(last).append(")))))").toString();
    }

    private static void worthOfTests() {
        due("14 deepest", worthBy(deepest(0), 0), 1);
        due("14 deepest, not", worthBy(deepest(1), 0), 0);
        due("14 deepest, at 9", worthBy(deepest(1), 9), 1);
        due("14 s of the lesser", worthBy("s=3", 0), 1);
        due("14 s of the greater", worthBy("s=2", 0), 0);
        due("14 t", worthBy("t=1", 0), 1);
        due("14 k", worthBy("k=1", 0), 1);
        due("14 k of the greater's", worthBy("k=5", 0), 0);
        due("14 x", worthBy("x=1", 0), 1);
        due("14 x > 1", worthBy("x>1", 0), 0);
        due("14 x < 1", worthBy("x<1", 0), 0);
        due("14 t < 1", worthBy("t<1", 0), 0);
        due("14 t < 2", worthBy("t<2", 0), 1);
        due("14 t > 1", worthBy("t>1", 0), 0);
        due("14 h = 10", worthBy("h=10", 10), 1);
        due("14 h = 1", worthBy("h=1", 10), 0);
        due("14 h < 0, not", worthBy("!h<0", 10), 1);
        due("14 h < 24", worthBy("h<24", 23), 1);
        due("14 h < 23", worthBy("h<23", 23), 0);
        due("14 h > 22", worthBy("h>22", 23), 1);
        due("14 h > 99", worthBy("h>99", 23), 0);
        due("14 h = 24", worthBy("h=24", 0), 0);
        due("14 h < 99", worthBy("h<99", 0), 1);
        due("14 h < 0", worthBy("h<0", 0), 0);
        due("14 & ahead of |", worthBy("h=0|h=1&h=2", 0), 1);
        due("14 & ahead of |, turned", worthBy("h=2&h=1|h=0", 0), 1);
        due("14 (", worthBy("(h=0|h=1)&h=2", 0), 0);
        due("14 !", worthBy("!h=0", 0), 0);
        due("14 ! binds its F alone", worthBy("!h=1&h=1", 0), 0);
        due("14 ! ahead of (", worthBy("!(h=1&h=1)", 0), 1);
        due("14 !!", worthBy("!!h=0", 0), 1);
        due("14 deep", worthBy("h=9|s=3&(t=9|t=1&(k=9|k=1&(x=0|x=1&(h=9|h=0&!h=1))))", 0), 1);
        due("14 deep, not", worthBy("h=9|s=3&(t=9|t=1&(k=9|k=1&(x=0|x=1&(h=9|h=0&(h=1)))))", 0), 0);
    }

    private static void hour() {
        TwinTools x = Checks.people(HAND, HAND, HAND);
        x.free(2, 1);
        Checks.pairs(x, 0, 1, 1, 2);
        due("15 goes", x.hour(0, 0), 1);
        due("15 the third one waits", x.hour(0, 1), 8);
        x.broken(0, true);
        due("15 the next one goes not", x.hour(0, 0), 0);
        due("15 waiting", x.hour(0, 1), 2 | 8);
        x.broken(1, true);
        due("15 the next pair goes", x.hour(0, 0), 4);
        due("15 nobody waits", x.hour(0, 1), 0);
        due("15 one alone waits", x.hour(1, 1), 4);
        due("15 hour 24", x.hour(24, 0), -10001);
        due("15 hour -1", x.hour(-1, 0), -10001);
        due("15 what 5", x.hour(0, 5), -10001);
        due("15 what -1", x.hour(0, -1), -10001);
    }

    private static void hourSets() {
        TwinTools x = Checks.people(HAND, BELL, HOME, TOLD, HAND);
        x.free(4, 2);
        // Pairs 0 (people 0 1), 2 (1 2), 4 (2 3), 6 (4 4), 8 (0 4).
        Checks.pairs(x, 0, 1, 1, 2, 2, 3, 4, 4, 0, 4);
        due("15 most without a valley", x.hour(0, 2), 0);
        due("15 its set", x.hour(0, 3), 0);
        due("15 many", x.hour(0, 4), 2);
        due("15 many, one more free", x.hour(1, 4), 2);
        Checks.valley(x, "worth 3 t=0|t=4;worth 6 t=2;worth 50 t=6;worth 7 t=8");
        due("15 most", x.hour(0, 2), 6);
        due("15 least of equal sets", x.hour(0, 3), 4);
        due("15 most, one more free", x.hour(1, 2), 13);
        due("15 its set, one more free", x.hour(1, 3), 4 | 256);
        x.broken(3, true);
        due("15 most, broken", x.hour(0, 2), 6);
        due("15 its set, broken", x.hour(0, 3), 1 | 16);
        Checks.valley(x, "less 3 h<24");
        due("15 most of none", x.hour(0, 2), 0);
        due("15 set of none", x.hour(0, 3), 0);
        due("15 many, worth or not", x.hour(0, 4), 2);
        x.free(2, ALL - 2);
        due("15 many, free by the hour", x.hour(1, 4), 1);
        due("15 many, free in another hour", x.hour(2, 4), 2);
        x.free(1, 0);
        due("15 many, one away", x.hour(0, 4), 1);
        TwinTools y = new TwinTools();
        y.person(HAND, 0, 0);
        y.person(HAND, 0, 1);
        y.free(0, ALL);
        y.free(1, ALL);
        Checks.pairs(y, 0, 1);
        Checks.valley(y, "worth 5 x=1;worth 2 x=0");
        due("15 in two houses", y.hour(7, 2), 2);
    }

    private static void day() {
        TwinTools x = Checks.people(HAND, BELL, HAND);
        x.free(0, 0xfff);
        Checks.pairs(x, 0, 1, 2, 2);
        Checks.valley(x, "worth 2 h>3;less 1 h=0;bell 3");
        due("16 gone", x.of(0, 4), 1 | 1 << 3 | 1 << 6 | 1 << 9);
        due("16 all worth", x.day(0), -1 + 0 + 2 + 2);
        // Tool 0 in 8 hours, tool 1 in 12, 15, 18, 21, tool 2 always.
        due("16 waiting", x.day(1), 8 + 4 + 24);
        due("16 best day", x.day(2), 8 * 2);
        due("16 bell", x.day(3), 3);
        due("16 what 4", x.day(4), -10001);
        due("16 what -1", x.day(-1), -10001);
    }

    private static void change() {
        TwinTools x = Checks.people(HAND, HAND, HAND, HAND);
        x.free(1, 0);
        Checks.pairs(x, 0, 1, 2, 3);
        Checks.valley(x, "worth 1 t=0;worth 3 t=0&h=5");
        due("17 before", x.day(2), 0);
        due("17 one", x.change(0), 1);
        due("17 other", x.change(1), 2);
        due("17 more", x.change(2), 24 + 3);
        due("17 changes nothing", x.of(1, 1), 1);
        x.free(1, ALL);
        due("17 none better", x.change(0), NOTHING);
        due("17 none better, other", x.change(1), NOTHING);
        due("17 none better, more", x.change(2), 0);
        due("17 what 3", x.change(3), NONE);
        due("17 what -1", x.change(-1), NONE);
        // Whom the lesser tool is held by counts, so twins may change hands.
        TwinTools y = Checks.people(HAND, BELL);
        Checks.pairs(y, 0, 1);
        Checks.valley(y, "worth 1 k=1");
        due("17 twins", y.change(0), 0);
        due("17 twins, other", y.change(1), 1);
        due("17 twins, more", y.change(2), 24);
        // Two tools of one are not changed.
        TwinTools z = Checks.people(HAND, HAND);
        Checks.pairs(z, 0, 0);
        Checks.valley(z, "worth 1 h<24");
        due("17 one holder", z.change(0), NOTHING);
    }

    private static void awayAndWorst() {
        TwinTools x = Checks.people(HAND, HAND, HAND, HAND);
        Checks.pairs(x, 0, 1, 1, 2);
        Checks.valley(x, "worth 3 t=0;worth 2 t=2");
        due("18 away 0", x.away(0), 24);
        due("18 away 1", x.away(1), 72);
        due("18 away 2", x.away(2), 0);
        due("18 away 3", x.away(3), 0);
        due("18 changes nothing", x.who(1, 3), ALL);
        due("18 nobody", x.away(4), -10001);
        due("18 below", x.away(-1), -10001);
        due("19 worst", x.worst(), 1);
        due("19 changes nothing", x.day(2), 72);
        x.broken(2, true);
        due("19 least of equal ones", x.worst(), 0);
        x.broken(0, true);
        due("19 nothing to lose", x.worst(), 0);
        due("19 nobody", new TwinTools().worst(), NOTHING);
    }

    private static void join() {
        TwinTools x = Checks.people(HAND, HAND, HAND);
        due("20 no tools", x.join(-1), 0);
        due("20 no tools, k", x.join(0), -10001);
        x.tool(0, 0);
        due("20 one tool", x.join(-1), -9);
        x.tool(0, 1);
        x.tool(0, 2);
        x.tool(0, 0);
        // Pairs by lesser tools 0 and 1 at best, held by unlike ones: 0 2, 1 3 leaves one of them out.
        Checks.valley(x, "worth 1 t=0;worth 4 t=1;worth 2 t=2");
        due("20 best day", x.join(-1), 4 * 24);
        due("20 of 0", x.join(0), 2);
        due("20 of 1", x.join(1), 3);
        due("20 of 2", x.join(2), 0);
        due("20 of 3", x.join(3), 1);
        due("20 changes nothing", x.of(0, 2), NOTHING);
        due("20 k 4", x.join(4), -10001);
        due("20 k -2", x.join(-2), -10001);
        x.broken(1, true);
        due("20 broken", x.join(-1), 2 * 24);
        due("20 broken, of 0", x.join(0), 1);
        x.tool(0, 0);
        due("20 odd", x.join(0), -9);
        x.tool(0, 0);
        due("20 six", x.join(-1), 2 * 24);
        due("20 six, first of equal rows", x.join(0), 1);
        due("20 six, of 2", x.join(2), 3);
        due("20 six, of 5", x.join(5), 4);
        x.tool(0, 0);
        x.tool(0, 0);
        due("20 eight", x.join(7), -9);
        due("20 eight, none", x.join(8), -10001);
    }

    private static void trialAndClear() {
        TwinTools x = Checks.people(HAND);
        Checks.pairs(x, 0, 0);
        due("21 a", x.trial(2, 2, true), NONE);
        due("21 b", x.trial(0, -1, true), NONE);
        due("21 one", x.trial(1, 1, true), BAD);
        for (int i = 1; i <= 12; i++) {
            due("21 trial", x.trial(i % 2, 1 - i % 2, true), i);
        }
        due("21 full", x.trial(0, 1, true), FULL);
        due("21 full, one", x.trial(0, 0, true), BAD);
        due("22 clear", x.clear(), 12);
        due("22 clear again", x.clear(), 0);
        due("22 none bears", x.find(0), 3);
        due("21 anew", x.trial(0, 1, false), 1);
    }

    private static void find() {
        TwinTools x = Checks.people(HAND);
        Checks.pairs(x, 0, 0, 0, 0, 0, 0);
        x.tool(0, 0);
        due("23 all", x.find(0), 127);
        due("23 try", x.find(1), 0);
        x.trial(1, 0, true);
        due("23 not these", x.find(0), 126 - 2);
        due("23 try others", x.find(1), 2);
        x.trial(3, 5, false);
        due("23 no twins, did not go", x.find(0), 124);
        x.broken(0, true);
        due("23 whatever is told", x.find(0), 124);
        x.trial(4, 5, false);
        due("23 one of these", x.find(0), 48);
        // Each pair has 2 among or 2 not among.
        due("23 try, least of equal ones", x.find(1), 0);
        x.trial(2, 3, false);
        due("23 nobody", x.find(0), 0);
        x.clear();
        x.trial(0, 2, true);
        due("23 no twins went", x.find(0), 0);
        x.twin(0, 2);
        due("23 by the twins of now", x.find(0), 127 - 5);
        due("23 what 2", x.find(2), NONE);
        due("23 what -1", x.find(-1), NONE);
        TwinTools y = Checks.people(HAND);
        y.tool(0, 0);
        due("23 no pairs", y.find(1), NOTHING);
    }

    private static void fits() {
        TwinTools x = Checks.people(HAND);
        Checks.pairs(x, 0, 0, 0, 0, 0);
        due("24 all others", x.fits(1), 31 - 2);
        x.trial(1, 3, false);
        due("24 not that", x.fits(1), 31 - 2 - 8);
        due("24 not that, turned", x.fits(3), 31 - 8 - 2);
        due("24 of another", x.fits(0), 30);
        x.trial(4, 1, true);
        due("24 that alone", x.fits(1), 16);
        due("24 that alone, turned", x.fits(4), 2);
        x.trial(1, 0, true);
        due("24 two went", x.fits(1), 0);
        due("24 none", x.fits(5), NONE);
        due("24 below", x.fits(-1), NONE);
    }

    private static void onceIs(int p, int q, int n, long above, long below) {
        TwinTools x = new TwinTools();
        due("25 once " + p + " " + q + " " + n, x.once(p, q, n, 0), above);
        due("25 once " + p + " " + q + " " + n + ", below", x.once(p, q, n, 1), below);
    }

    private static void once() {
        onceIs(0, 5, 4, 0, 1);
        onceIs(10, 0, 2, 0, 1);
        onceIs(10, 10, 1, 1, 1);
        onceIs(10, 10, 4, 1, 1);
        onceIs(5, 10, 1, 1, 2);
        onceIs(5, 10, 4, 15, 16);
        onceIs(1, 1, 2, 199, 10000);
        onceIs(1, 1, 4, 100000000L - 99L * 99 * 99 * 99, 100000000);
        onceIs(3, 4, 1, 3, 25);
        TwinTools x = new TwinTools();
        due("25 p", x.once(11, 0, 1, 0), TwinTools.NO);
        due("25 p below", x.once(-1, 0, 1, 0), TwinTools.NO);
        due("25 q", x.once(0, 11, 1, 0), TwinTools.NO);
        due("25 q below", x.once(0, -1, 1, 0), TwinTools.NO);
        due("25 n 0", x.once(1, 1, 0, 0), TwinTools.NO);
        due("25 n 5", x.once(1, 1, 5, 0), TwinTools.NO);
        due("25 part 2", x.once(1, 1, 1, 2), TwinTools.NO);
        due("25 part -1", x.once(1, 1, 1, -1), TwinTools.NO);
        due("25 NO", TwinTools.NO, Long.MIN_VALUE);
    }

    private static void bookAndLooked() {
        TwinTools x = Checks.people(HAND, HAND);
        x.free(1, 3);
        Checks.pairs(x, 0, 1);
        x.tool(0, 0);
        due("27 no rows", x.looked(), NOTHING);
        due("26 book", x.book(0, 0), 1);
        due("26 book", x.book(1, 1), 2);
        due("27 all so", x.looked(), NOTHING);
        due("26 hour 24", x.book(24, 0), NONE);
        due("26 hour -1", x.book(-1, 0), NONE);
        due("26 tool", x.book(0, 3), NONE);
        due("26 book", x.book(2, 0), 3);
        due("26 book", x.book(0, 2), 4);
        due("27 third", x.looked(), 2);
        x.free(1, 7);
        due("27 without a twin", x.looked(), 3);
        x.broken(1, true);
        due("27 first", x.looked(), 0);
        for (int i = 5; i <= 12; i++) {
            due("26 book", x.book(0, 0), i);
        }
        due("26 full", x.book(0, 0), FULL);
        due("26 full, none", x.book(0, 9), NONE);
    }

    private static void actIs(TwinTools x, int person, int act, int arg, int want, int... bodies) {
        String call = "28 act(" + person + ", " + act + ", " + arg + ")";
        due(call, x.act(person, act, arg), want);
        due(call + " ran", x.count(6), bodies.length);
        for (int i = 0; i < bodies.length; i++) {
            due("29 " + call + " trace " + i, x.trace(i), bodies[i]);
        }
        due("29 " + call + " trace behind", x.trace(bodies.length), NONE);
        due("29 " + call + " trace -1", x.trace(-1), NONE);
    }

    private static void acts() {
        TwinTools x = new TwinTools();
        for (int kind = 0; kind < 7; kind++) {
            x.person(kind, 3 + kind % 2, 0);
        }
        // The v are 3 4 3 4 3 4 3.
        actIs(x, 0, 0, 5, 5, 1);
        actIs(x, 0, 1, 5, 2, 2, 1);
        actIs(x, 0, 2, 5, 4, 3, 2, 1);
        actIs(x, 1, 0, 5, 16, 11, 1);
        actIs(x, 1, 1, 5, 12, 2, 11, 1);
        actIs(x, 1, 2, 5, 24, 3, 2, 11, 1);
        actIs(x, 2, 0, 5, 7, 1);
        actIs(x, 2, 1, 5, -4, 21, 2, 1);
        actIs(x, 2, 2, 5, -8, 3, 21, 2, 1);
        actIs(x, 3, 0, 5, 8, 1);
        actIs(x, 3, 1, 5, 4, 2, 1);
        actIs(x, 3, 2, 5, 8 ^ 7, 31, 3, 2, 1);
        actIs(x, 4, 0, 5, 19, 11, 1);
        actIs(x, 4, 1, 5, 16, 2, 11, 1);
        actIs(x, 4, 2, 5, (12 + 4 - 3) * 2 + (6 + 4), 41, 3, 2, 11, 1, 11, 1);
        actIs(x, 5, 0, 5, 10 ^ 5, 51, 1);
        actIs(x, 5, 0, 4, 9 ^ 5, 51, 1);
        actIs(x, 5, 1, 5, -((10 ^ 5) - 4), 21, 2, 51, 1);
        actIs(x, 5, 2, 5, -((10 ^ 5) - 4) * 2, 3, 21, 2, 51, 1);
        actIs(x, 6, 0, 5, 11, 1);
        actIs(x, 6, 1, 5, 11 - 3 + 3, 61, 2, 1);
        actIs(x, 6, 2, 5, 22 ^ 7, 31, 3, 61, 2, 1);
        actIs(x, 1, 0, HIGH, HIGH * 3 + 1, 11, 1);
        actIs(x, 0, 1, LOW, HIGH - 2, 2, 1);
        actIs(x, 7, 0, 5, 0);
        actIs(x, 4, 2, 0, (-3 + 4 - 3) * 2 + 10, 41, 3, 2, 11, 1, 11, 1);
        actIs(x, 4, 3, 0, 0);
        actIs(x, 4, -1, 0, 0);
        actIs(x, -1, 0, 0, 0);
    }

    private static void as() {
        boolean[][] is = {
            {true, false, false, false, false, false, false},
            {true, true, false, false, false, false, false},
            {true, false, true, false, false, false, false},
            {true, false, false, true, false, false, false},
            {true, true, false, false, true, false, false},
            {true, false, true, false, false, true, false},
            {true, false, false, true, false, false, true}};
        TwinTools x = new TwinTools();
        for (int kind = 0; kind < 7; kind++) {
            x.person(kind, kind + 2, 0);
            for (int k = 0; k < 7; k++) {
                due("30 as(" + kind + ", " + k + ")", x.as(kind, k), is[kind][k] ? kind + 2 : -6);
            }
        }
        due("30 nobody", x.as(7, 0), NONE);
        due("30 k 7", x.as(0, 7), NONE);
        due("30 k -1", x.as(0, -1), NONE);
    }

    private static void imageAndUndo() {
        TwinTools x = Checks.people(TOLD, HAND);
        Checks.pairs(x, 0, 1, 0);
        x.row(0, 2, 1);
        Checks.valley(x, "bell 5");
        Checks.feed(x, "bell");
        x.broken(2, true);
        x.trial(0, 1, true);
        x.book(3, 1);
        due("32 none", x.undo(), STATE);
        due("31 image", x.image(), 3);
        x.act(0, 1, 5);
        for (int i = 0; i < 2; i++) {
            spoil(x);
            due("32 undo", x.undo(), 3);
            isAsImage(x);
        }
        due("32 the trace stays", x.count(6), 3);
        due("31 image anew", x.image(), 3);
        x.tool(0, 0);
        due("31 the latest holds", x.image(), 4);
        due("32 undo to the latest", x.undo(), 4);
    }

    /** What came behind an image leaves no mark on what comes at its place later. */
    private static void anewBehindUndo() {
        TwinTools x = new TwinTools();
        Checks.feed(x, "bell 4");
        x.image();
        x.valley();
        Checks.feed(x, "worth ");
        x.person(TOLD, 1, 1);
        x.person(TOLD, 2, 2);
        x.free(0, ALL);
        x.free(1, ALL);
        x.row(1, 0, 3);
        Checks.pairs(x, 0, 1);
        x.broken(1, true);
        x.trial(0, 1, true);
        due("32 undo", x.undo(), 0);
        due("32 the tape's signs", x.valley(), 0);
        due("32 the tape's bell", x.day(3), 4);
        x.person(BELL, 5, 3);
        x.person(TOLD, 6, 2);
        due("32 kind anew", x.who(0, 0), BELL);
        due("32 house anew", x.who(0, 2), 3);
        due("32 free anew", x.free(0, ALL), 0);
        due("32 row anew", x.row(1, 0, -1), NOTHING);
        x.tool(2, 1);
        x.tool(3, 0);
        due("32 sort anew", x.of(0, 0), 2);
        due("32 not broken anew", x.of(1, 3), 0);
        due("32 no twin anew", x.of(1, 2), NOTHING);
        due("32 trial anew", x.trial(0, 1, false), 1);
        due("32 trial anew did not go", x.fits(0), 0);
        due("31 image", x.image(), 2);
        x.clear();
        x.trial(1, 0, true);
        x.trial(1, 0, true);
        x.undo();
        due("32 trials again", x.fits(0), 0);
        due("32 trials again, how many", x.count(3), 1);
    }

    private static void spoil(TwinTools x) {
        Checks.valley(x, "?");
        Checks.valley(x, "bell 7;worth 9 h<24");
        Checks.feed(x, "xyz");
        x.person(HOME, 1, 1);
        x.free(0, 0);
        x.row(0, 2, 7);
        x.row(0, 1, 7);
        x.tool(3, 2);
        x.twin(0, 3);
        x.broken(2, false);
        x.broken(1, true);
        x.give(0, 2);
        x.clear();
        x.trial(3, 2, false);
        x.book(1, 1);
        due("32 spoiled", x.worth(0, 0), 9);
    }

    private static void isAsImage(TwinTools x) {
        int[] counts = {2, 3, 1, 1, 1, 4};
        for (int what = 0; what < counts.length; what++) {
            due("32 count(" + what + ")", x.count(what), counts[what]);
        }
        due("32 bell", x.day(3), 5);
        due("32 worth", x.worth(0, 0), 0);
        due("32 free", x.who(0, 3), ALL);
        due("32 twin", x.of(0, 2), 1);
        due("32 twin's", x.of(1, 2), 0);
        due("32 single", x.of(2, 2), NOTHING);
        due("32 holder", x.of(0, 1), 0);
        due("32 broken", x.of(2, 3), 1);
        due("32 not broken", x.of(1, 3), 0);
        due("32 row", x.row(0, 2, 1), 1);
        due("32 row of nothing", x.row(0, 1, -1), NOTHING);
        due("32 trials", x.find(0), 4);
        due("32 book", x.looked(), NOTHING);
    }

    private static void count() {
        TwinTools x = Checks.people(HAND, HAND);
        Checks.pairs(x, 0, 0, 0);
        Checks.valley(x, "bell 1");
        x.feed('a');
        x.feed('b');
        x.trial(0, 1, true);
        x.trial(0, 2, true);
        x.trial(1, 2, true);
        for (int i = 0; i < 4; i++) {
            x.book(0, 0);
        }
        x.act(0, 2, 0);
        int[] counts = {2, 3, 1, 3, 4, 2, 3};
        for (int what = 0; what < counts.length; what++) {
            due("33 count(" + what + ")", x.count(what), counts[what]);
        }
        due("33 count(7)", x.count(7), NONE);
        due("33 count(-1)", x.count(-1), NONE);
    }

    private static void wildArguments() {
        int[] wild = {LOW, -10, -2, -1, 10, 12, 24, 31, 32, 100, 1 << 24, HIGH};
        TwinTools x = Checks.people(TOLD, LATE);
        Checks.pairs(x, 0, 1);
        for (int w : wild) {
            due("wild person", x.free(w, 0), NONE);
            due("wild tool", x.broken(w, true), NONE);
            due("wild at", x.at(w, 0) + x.at(w, w), 2 * NONE);
            due("wild row", x.row(w, 0, 0) + x.row(0, w, 0), 2 * NONE);
            due("wild twin", x.twin(w, 0) + x.twin(0, w), 2 * NONE);
            due("wild give", x.give(w, 0) + x.give(0, w), 2 * NONE);
            due("wild of", x.of(w, 4) + x.of(0, w), 2 * NONE);
            due("wild who", x.who(w, 4) + x.who(0, w), 2 * NONE);
            due("wild trial", x.trial(w, w, true) + x.trial(0, w, true), 2 * NONE);
            due("wild fits, find", x.fits(w) + x.find(w), 2 * NONE);
            due("wild as", x.as(w, 0) + x.as(0, w), 2 * NONE);
            due("wild trace, count", x.trace(w) + x.count(w), 2 * NONE);
            due("wild book, change", x.book(0, w) + x.change(w), 2 * NONE);
            due("wild day, away", x.day(w) + x.away(w), 2 * -10001);
            due("wild hour", x.hour(0, w) + x.worth(w, w), 2 * -10001);
            due("wild act", x.act(w, 0, 0) + x.act(0, w, 0), 0);
            due("wild once", x.once(w == 10 ? 11 : w, 1, 1, 0), TwinTools.NO);
        }
    }
}
