/** The edges that the document names of THE TAPE, the VALLEYS and the WORTH: each sentence by itself. */
public final class ValleyEdgesTest {
    private static final int BAD = -2, FULL = -4, NO_SUM = -10001;
    private static final int LOW = Integer.MIN_VALUE, HIGH = Integer.MAX_VALUE;
    private static final int HAND = 0, LATE = 5, TOLD = 6;
    private static final Checks CHECKS = new Checks();

    public static void main(String[] args) {
        signs();
        signsThatAreNone();
        tapeFull();
        tapeOfHundredIsRead();
        tapeIsEmptyThen();
        valleyNumbers();
        valleyFull();
        faultLeavesWhatHeld();
        faultAtTheEnds();
        faultOfEachPlace();
        faultOfEachPrefix();
        faultOfWords();
        clausesAtMost();
        clausesBetween();
        blanks();
        digits();
        digitsOfTests();
        openAtMost();
        openTillItEnds();
        closedWithoutOpen();
        newestHolds();
        withoutValley();
        worthBelowZero();
        worthAtItsEnds();
        bells();
        hourTests();
        sortAndToolTests();
        kindAndHouseTests();
        jointsAndNots();
        worthOfNone();
        CHECKS.end("ValleyEdgesTest");
    }

    private static void due(String call, long got, long want) {
        CHECKS.due(call, got, want);
    }

    private static void fault(String text, int place) {
        due("fault of '" + text + "'", Checks.valley(new TwinTools(), text), -10 - place);
    }

    private static void sound(String text) {
        due("'" + text + "'", Checks.valley(new TwinTools(), text), 0);
    }

    /** Two HANDS of house 0, always free, with a pair, and a valley. */
    private static TwinTools pairUnder(String text) {
        TwinTools x = Checks.people(HAND, HAND);
        Checks.pairs(x, 0, 1);
        due("'" + text + "'", Checks.valley(x, text), 0);
        return x;
    }

    private static void signs() {
        CHECKS.sentence("2: A sign (0 .. 127) comes behind THE TAPE's: how many it has.");
        TwinTools x = new TwinTools();
        due("feed(0)", x.feed(0), 1);
        due("feed(127)", x.feed(127), 2);
        due("feed(0) again", x.feed(0), 3);
        due("count(5)", x.count(5), 3);
        TwinTools y = new TwinTools();
        Checks.feed(y, "bell 7");
        y.feed(0);
        due("a 0 is a sign like others", y.valley(), -16);
    }

    private static void signsThatAreNone() {
        CHECKS.sentence("2: BAD: a sign below 0 or above 127; it changes nothing.");
        TwinTools x = new TwinTools();
        int[] none = {-1, -128, 128, 255, 256 + 'b', (1 << 16) + 'b', LOW, HIGH};
        for (int sign : none) {
            due("feed(" + sign + ")", x.feed(sign), BAD);
            due("count(5)", x.count(5), 0);
        }
        Checks.feed(x, "bel");
        due("feed(128)", x.feed(128), BAD);
        Checks.feed(x, "l 3");
        due("valley()", x.valley(), 0);
    }

    private static void tapeFull() {
        CHECKS.sentence("2: FULL: THE TAPE has 100 bytes at most.");
        TwinTools x = new TwinTools();
        for (int i = 1; i <= 100; i++) {
            due("feed(" + i + ".)", x.feed('b'), i);
        }
        due("feed(101.)", x.feed('b'), FULL);
        due("count(5)", x.count(5), 100);
        due("feed(0)", x.feed(0), FULL);
        due("feed(127)", x.feed(127), FULL);
        due("BAD is told first", x.feed(128), BAD);
        due("BAD is told first", x.feed(-1), BAD);
        due("valley()", x.valley(), -11);
        due("feed, empty then", x.feed('b'), 1);
    }

    /** A sound text of this size (some 40 signs or more): tests of 3 or 4 signs with & between. */
    private static String textOf(int size) {
        StringBuilder s = new StringBuilder("worth 10 h<24");
        while (s.length() < size) {
            s.append((size - s.length()) % 4 == 0 ? "&h<9" : "&h<24");
        }
        return s.toString();
    }

    private static void tapeOfHundredIsRead() {
        CHECKS.sentence("VALLEY: read from THE TAPE (bytes, 100 at most).");
        String text = textOf(98) + ";l";
        due("size", text.length(), 100);
        fault(text, 100);
        String whole = textOf(94) + ";bell ";
        due("size", whole.length(), 100);
        fault(whole, 100);
        TwinTools x = pairUnder(textOf(93) + ";bell 8");
        due("the hundredth sign counts", x.day(3), 8);
        due("and so do those ahead", x.worth(0, 8) * 100 + x.worth(0, 9), 1000);
        TwinTools y = pairUnder(textOf(93) + ";bell 87");
        due("the sign behind is refused", y.day(3), 8);
    }

    private static void tapeIsEmptyThen() {
        CHECKS.sentence("3: THE TAPE .. is empty then.");
        TwinTools x = new TwinTools();
        due("sound", Checks.valley(x, "bell 5"), 0);
        due("count(5)", x.count(5), 0);
        due("nothing more is on it", x.valley(), -10);
        due("faulty", Checks.valley(x, "bell 5;"), -17);
        due("count(5) behind a fault", x.count(5), 0);
        due("feed behind a fault", x.feed('b'), 1);
        due("only that is on it", x.valley(), -11);
    }

    private static void valleyNumbers() {
        CHECKS.sentence("3: .. its number; VALLEYS are numbered from 0 on, 5 at most.");
        TwinTools x = new TwinTools();
        for (int i = 0; i < 5; i++) {
            due("valley " + i, Checks.valley(x, "bell 1"), i);
            due("a faulty one has no number", Checks.valley(x, i < 4 ? "bell" : ""), i < 4 ? -14 : FULL);
            due("count(2)", x.count(2), i + 1);
        }
    }

    private static void valleyFull() {
        CHECKS.sentence("3: FULL (THE TAPE stays).");
        TwinTools x = new TwinTools();
        x.image();
        for (int i = 1; i <= 5; i++) {
            Checks.valley(x, "bell " + i);
        }
        due("an empty tape", x.valley(), FULL);
        Checks.feed(x, "bell 9");
        due("a sixth", x.valley(), FULL);
        due("count(5)", x.count(5), 6);
        due("again", x.valley(), FULL);
        due("the tape goes on", x.feed('?'), 7);
        due("a faulty one", x.valley(), FULL);
        due("count(5)", x.count(5), 7);
        due("count(2)", x.count(2), 5);
        due("the fifth holds", x.day(3), 5);
        x.undo();
        due("no longer full", Checks.valley(x, "bell 9"), 0);
    }

    private static void faultLeavesWhatHeld() {
        CHECKS.sentence("3: -10 less the FAULT (the one that held holds).");
        TwinTools x = pairUnder("worth 7 h<24;bell 3");
        String[] faulty = {"", "bell 4;", "worth 1 h<24;bell 4;x", "bell 4;less 2 h<24;less 3 (h<24", "bell 123"};
        int[] places = {0, 7, 20, 31, 7};
        for (int i = 0; i < faulty.length; i++) {
            due("'" + faulty[i] + "'", Checks.valley(x, faulty[i]), -10 - places[i]);
            due("bell", x.day(3), 3);
            due("worth", x.worth(0, 0), 7);
            due("count(2)", x.count(2), 1);
        }
        TwinTools y = Checks.people(HAND, HAND);
        Checks.pairs(y, 0, 1);
        Checks.valley(y, "worth 1 h<24;bell 4;");
        due("none held: bell", y.day(3), 6);
        due("none held: worth", y.worth(0, 0), 0);
        due("none held: count(2)", y.count(2), 0);
        CHECKS.sentence("3: -10 less the FAULT: nothing of it is left in the next one.");
        Checks.valley(y, "bell 4;worth 1 h<24;worth 2 h=1|h=0;worth 4 h<24;worth 8 h<24?");
        due("the next one", Checks.valley(y, "worth 16 h=0"), 0);
        due("worth in its hour", y.worth(0, 0), 16);
        due("worth in another hour", y.worth(0, 1), 0);
        due("bell", y.day(3), 6);
        Checks.valley(y, "worth 1 !h=1?");
        due("the one behind", Checks.valley(y, "worth 16 h=0"), 1);
        due("worth in its hour", y.worth(0, 0), 16);
        due("worth in another hour", y.worth(0, 1), 0);
    }

    private static void faultAtTheEnds() {
        CHECKS.sentence("FAULT: the place of the first byte .. (the size, if it ends too early).");
        fault("", 0);
        fault("x", 0);
        fault("b", 1);
        StringBuilder s = new StringBuilder("w");
        while (s.length() < 100) {
            s.append('!');
        }
        fault(s.toString(), 1);
        fault(textOf(98) + "|?", 99);
        fault(textOf(99) + "|", 100);
        fault(textOf(99) + "?", 99);
        CHECKS.sentence("FAULT: the first byte: what stands behind it is not looked at.");
        fault("?bell 1", 0);
        fault("bell ?worth", 5);
        fault("bell ??", 5);
    }

    private static final String SAMPLE = "worth 10 !(h<2|s=3)&t>0;less 9 k=6;bell 24";

    private static void faultOfEachPlace() {
        CHECKS.sentence("FAULT: .. with which no VALLEY can go on: at each place of a text.");
        sound(SAMPLE);
        for (int i = 0; i < SAMPLE.length(); i++) {
            for (char sign : new char[] {0, 'z', 127}) {
                fault(SAMPLE.substring(0, i) + sign + SAMPLE.substring(i + 1), i);
            }
        }
        fault(SAMPLE + 'z', SAMPLE.length());
    }

    private static void faultOfEachPrefix() {
        CHECKS.sentence("FAULT: the size, if it ends too early: each beginning of a text.");
        for (int size = 0; size < SAMPLE.length(); size++) {
            // Behind the ), both tests that end a clause, and the first digit of the bell it may end.
            if (size == 19 || size == 23 || size == 34 || size == 41) {
                sound(SAMPLE.substring(0, size));
            } else {
                fault(SAMPLE.substring(0, size), size);
            }
        }
    }

    private static void faultOfWords() {
        CHECKS.sentence("CLAUSES: worth n E; less n E; bell n.");
        fault("Worth 1 h=1", 0);
        fault("worthy 1 h=1", 5);
        fault("wells 1", 1);
        fault("lell 1", 2);
        fault("best 1 h=1", 2);
        fault("bell 1 h=1", 6);
        fault("worth 1", 7);
        fault("worth 1;bell 1", 7);
        fault("less 1", 6);
        fault("less h=1", 5);
        fault("worth (1) h=1", 6);
        sound("worth 1 h=1");
        sound("less 1 h=1");
        sound("bell 1");
    }

    private static String bells(int howMany) {
        StringBuilder s = new StringBuilder("bell 1");
        for (int i = 1; i < howMany; i++) {
            s.append(";bell 1");
        }
        return s.toString();
    }

    private static void clausesAtMost() {
        CHECKS.sentence("CLAUSES, 10 at most.");
        sound(bells(1));
        sound(bells(9));
        sound(bells(10));
        fault(bells(11), 69);
        fault(bells(10) + ";", 69);
        fault(bells(9) + ";", 63);
        fault(bells(10) + "x", 69);
        fault(bells(10) + "23", 70);
        sound(bells(10) + "2");
        CHECKS.sentence("CLAUSES, 10 at most: the tenth counts like the others.");
        TwinTools x = pairUnder("bell 1;bell 1;bell 1;bell 2;"
                + "less 9 h=0;less 9 h=0;less 9 h=0;less 9 h=0;less 9 h=0;less 8 h=0");
        due("worth", x.worth(0, 0), -53);
        due("worth in another hour", x.worth(0, 1), 0);
        due("bell", x.day(3), 2);
        due("a tenth bell", pairUnder(bells(9) + ";bell 5").day(3), 5);
    }

    private static void clausesBetween() {
        CHECKS.sentence("CLAUSES .. with ; between.");
        fault(";bell 1", 0);
        fault("bell 1;", 7);
        fault("bell 1;;bell 1", 7);
        fault("bell 1,bell 1", 6);
        fault("bell 1bell 1", 6);
        fault("worth 1 h=1;;", 12);
        fault("worth 1 h=1worth 1 h=1", 11);
        sound("worth 1 h=1;bell 1;less 1 h=1");
    }

    private static void blanks() {
        CHECKS.sentence("One blank ahead of each part behind the word.");
        fault("worth1 h=1", 5);
        fault("worth  1 h=1", 6);
        fault("worth 1h=1", 7);
        fault("worth 1  h=1", 8);
        fault("less\t1 h=1", 4);
        fault("less 1\th=1", 6);
        fault("bell  1", 5);
        fault("bell1", 4);
        fault(" bell 1", 0);
        fault("bell 1 ", 6);
        fault("bell 1; bell 1", 7);
        fault("bell 1 ;bell 1", 6);
        fault("worth 1 h =1", 9);
        fault("worth 1 h= 1", 10);
        fault("worth 1 h=1 ", 11);
        fault("worth 1 h=1 &h=2", 11);
        fault("worth 1 h=1& h=2", 12);
        fault("worth 1 ! h=1", 9);
        fault("worth 1 ( h=1)", 9);
    }

    private static void digits() {
        CHECKS.sentence("n 1 or 2 digits, no 0 ahead of another.");
        String[] words = {"worth ", "less ", "bell "};
        for (String word : words) {
            String behind = word.equals("bell ") ? "" : " h=1";
            int at = word.length();
            sound(word + "0" + behind);
            sound(word + "9" + behind);
            sound(word + "10" + behind);
            sound(word + "99" + behind);
            fault(word + behind, at);
            fault(word + "00" + behind, at + 1);
            fault(word + "09" + behind, at + 1);
            fault(word + "100" + behind, at + 2);
            fault(word + "999" + behind, at + 2);
            fault(word + "-1" + behind, at);
            fault(word + "+1" + behind, at);
            fault(word + ":" + behind, at);
            fault(word + "/" + behind, at);
            fault(word + "1:" + behind, at + 1);
        }
        due("n 0", pairUnder("worth 0 h<24").worth(0, 0), 0);
        due("n 10", pairUnder("worth 10 h<24").worth(0, 0), 10);
        due("n 99", pairUnder("less 99 h<24").worth(0, 0), -99);
    }

    private static void digitsOfTests() {
        CHECKS.sentence("TEST: .. a number likewise.");
        sound("worth 1 h=0");
        sound("worth 1 s<9");
        sound("worth 1 t>10");
        sound("worth 1 k=99");
        fault("worth 1 x=", 10);
        fault("worth 1 x=00", 11);
        fault("worth 1 x=01", 11);
        fault("worth 1 x=0&", 12);
        fault("worth 1 h<100", 12);
        fault("worth 1 h<-1", 10);
        fault("worth 1 h<=1", 10);
        fault("worth 1 h=h", 10);
        fault("worth 1 1=h", 8);
        fault("worth 1 hs=1", 9);
        CHECKS.sentence("TEST: h or s or t or k or x, one of < = >.");
        for (int c = 0; c < 128; c++) {
            char sign = (char) c;
            boolean opens = sign == '!' || sign == '(';
            if ("hstkx".indexOf(sign) >= 0) {
                sound("worth 1 " + sign + "=1");
            } else {
                fault("worth 1 " + sign + "=1", opens ? 9 : 8);
            }
            if ("<=>".indexOf(sign) >= 0) {
                sound("worth 1 h" + sign + "1");
            } else {
                fault("worth 1 h" + sign + "1", 9);
            }
        }
    }

    private static void openAtMost() {
        CHECKS.sentence("At most 5 of ! and ( are open.");
        sound("worth 1 !!!!!h=1");
        fault("worth 1 !!!!!!h=1", 13);
        sound("worth 1 (((((h=1)))))");
        fault("worth 1 ((((((h=1))))))", 13);
        // All mixes of five: one more, of both sorts, is the fault.
        for (int mix = 0; mix < 32; mix++) {
            StringBuilder opened = new StringBuilder();
            StringBuilder closed = new StringBuilder();
            for (int i = 0; i < 5; i++) {
                boolean not = (mix >> i & 1) != 0;
                opened.append(not ? '!' : '(');
                closed.append(not ? "" : ")");
            }
            sound("worth 1 " + opened + "h=1" + closed);
            fault("worth 1 " + opened + "!h=1" + closed, 13);
            fault("worth 1 " + opened + "(h=1)" + closed, 13);
        }
        fault("worth 1 !!!!!", 13);
        fault("worth 1 !!!!!!", 13);
    }

    private static void openTillItEnds() {
        CHECKS.sentence("A ( is open till its ).");
        sound("worth 1 (((((h=1)))))&(((((h=1)))))|(((((h=1)))))");
        sound("worth 1 ((((h=1)&(h=1)|(h=1)&((h=1)))))");
        fault("worth 1 ((((h=1)&(h=1)|(h=1)&((h=1|(h=2))))))", 35);
        fault("worth 1 (((((h=1|h=2&(h=3))))))", 21);
        sound("worth 1 (h=1);worth 1 (((((h=1)))))");
        CHECKS.sentence("A ! is open till its F ends.");
        sound("worth 1 !!!!!h=1&!!!!!h=1|!!!!!h=1");
        sound("worth 1 (!h=1&!h=1|!h=1&!h=1|!h=1&!!!!h=1)");
        sound("worth 1 !((((h=1))))|!((((h=1))))");
        sound("worth 1 !(h=1)&(((((h=1)))))");
        sound("worth 1 !!!!(h=1)&!h=1");
        fault("worth 1 !!!!(h=1|!h=2)", 17);
        fault("worth 1 !!!((h=1&!h=2))", 17);
        sound("worth 1 !(!h=1&(h=2|!h=3|!(h=4)))");
        fault("worth 1 !(!h=1&(h=2|!h=3|!(!h=4)))", 27);
        sound("worth 1 !!!!!h=1;less 1 !!!!!h=1");
    }

    private static void closedWithoutOpen() {
        CHECKS.sentence("F: !F, (E), or a TEST: what is open ends.");
        fault("worth 1 h=1)", 11);
        fault("worth 1 (h=1))", 13);
        fault("worth 1 )", 8);
        fault("worth 1 ()", 9);
        fault("worth 1 (h=1", 12);
        fault("worth 1 (h=1;bell 1", 12);
        fault("worth 1 ((h=1)", 14);
        fault("worth 1 !", 9);
        fault("worth 1 !)", 9);
        fault("worth 1 !&h=1", 9);
        fault("worth 1 h=1!", 11);
        fault("worth 1 h=1(h=1)", 11);
        fault("worth 1 (h=1)(h=1)", 13);
        fault("worth 1 (h=1)h=1", 13);
        CHECKS.sentence("E: T, or T|E. T: F, or F&T.");
        fault("worth 1 |h=1", 8);
        fault("worth 1 &h=1", 8);
        fault("worth 1 h=1|", 12);
        fault("worth 1 h=1&", 12);
        fault("worth 1 h=1||h=1", 12);
        fault("worth 1 h=1&&h=1", 12);
        fault("worth 1 h=1|&h=1", 12);
        fault("worth 1 (h=1|)", 13);
        fault("worth 1 h=1&;bell 1", 12);
        sound("worth 1 h=1|h=1&h=1|h=1&h=1&h=1");
    }

    private static void newestHolds() {
        CHECKS.sentence("VALLEYS: .. the newest one holds.");
        TwinTools x = pairUnder("worth 1 h<24;bell 2");
        Checks.valley(x, "worth 4 h<24");
        due("worth", x.worth(0, 0), 4);
        due("bell of the newest, which has none", x.day(3), 6);
        Checks.valley(x, "bell 9");
        due("worth of the newest, which has none", x.worth(0, 0), 0);
        Checks.valley(x, "bell 8");
        Checks.valley(x, "less 4 h<24");
        due("the fifth", x.worth(0, 0), -4);
    }

    private static void withoutValley() {
        CHECKS.sentence("VALLEYS: .. without one there are no CLAUSES.");
        TwinTools x = Checks.people(HAND, HAND);
        Checks.pairs(x, 0, 1);
        for (int h = 0; h < 24; h++) {
            due("worth(0, " + h + ")", x.worth(0, h), 0);
        }
        due("day(3)", x.day(3), 6);
        due("day(0)", x.day(0), 0);
        due("day(2)", x.day(2), 0);
        due("they go all the same", x.of(0, 4), Checks.ALL_HOURS);
    }

    private static void worthBelowZero() {
        CHECKS.sentence("WORTH: the n of all worth whose E holds, less those of all less, together (may be below 0).");
        TwinTools x = pairUnder("worth 5 h<2;less 7 h>0;worth 1 h=1|h=2;less 5 h=0");
        due("hour 0: nothing is left", x.worth(0, 0), 0);
        due("hour 1: below 0", x.worth(0, 1), -1);
        due("hour 2", x.worth(0, 2), -6);
        due("hour 3", x.worth(0, 3), -7);
        due("ALL WORTH below 0", x.day(0), -1 - 6 - 21 * 7);
        due("BEST DAY not", x.day(2), 0);
    }

    private static void worthAtItsEnds() {
        CHECKS.sentence("WORTH: the least and the most that a TAPE has room for.");
        StringBuilder less = new StringBuilder("less 99 h<9");
        for (int i = 1; i < 8; i++) {
            less.append(";less 99 h<9");
        }
        TwinTools x = pairUnder(less.toString());
        due("least", x.worth(1, 8), -8 * 99);
        due("not at 9", x.worth(1, 9), 0);
        due("day", x.day(0), -9 * 8 * 99);
        StringBuilder more = new StringBuilder("worth 99 h<24");
        for (int i = 1; i < 7; i++) {
            more.append(";worth 99 h<24");
        }
        TwinTools y = pairUnder(more.toString());
        due("most", y.worth(0, 23), 7 * 99);
        due("day", y.day(0), 24 * 7 * 99);
        due("best day", y.day(2), 24 * 7 * 99);
    }

    private static void bells() {
        CHECKS.sentence("bell (6 without ..).");
        due("no valley", new TwinTools().day(3), 6);
        due("a valley without", pairUnder("worth 1 h=1").day(3), 6);
        CHECKS.sentence("bell (.. 0 as 1).");
        due("bell 0", pairUnder("bell 0").day(3), 1);
        due("bell 1", pairUnder("bell 1").day(3), 1);
        due("bell 0 as the last one", pairUnder("bell 7;bell 0").day(3), 1);
        due("bell 99", pairUnder("bell 99").day(3), 99);
        CHECKS.sentence("bell: the last n.");
        due("of two", pairUnder("bell 9;bell 4").day(3), 4);
        due("of two, the lesser first", pairUnder("bell 4;bell 9").day(3), 9);
        due("0 ahead", pairUnder("bell 0;bell 12").day(3), 12);
        due("others behind", pairUnder("bell 3;bell 2;worth 5 h=1;less 8 h=7").day(3), 2);
    }

    /** In which hours the pair of two is worth something by an E, as bits. */
    private static int hoursOf(String e) {
        TwinTools x = pairUnder("worth 1 " + e);
        int bits = 0;
        for (int h = 0; h < 24; h++) {
            bits |= x.worth(0, h) << h;
        }
        return bits;
    }

    private static void hourTests() {
        CHECKS.sentence("TEST: h the HOUR: the ends of the day.");
        int all = Checks.ALL_HOURS;
        due("h<0", hoursOf("h<0"), 0);
        due("h=0", hoursOf("h=0"), 1);
        due("h>0", hoursOf("h>0"), all - 1);
        due("h<1", hoursOf("h<1"), 1);
        due("h<23", hoursOf("h<23"), all >> 1);
        due("h=23", hoursOf("h=23"), 1 << 23);
        due("h>23", hoursOf("h>23"), 0);
        due("h>22", hoursOf("h>22"), 1 << 23);
        due("h<24", hoursOf("h<24"), all);
        due("h=24", hoursOf("h=24"), 0);
        due("h>24", hoursOf("h>24"), 0);
        due("h<31", hoursOf("h<31"), all);
        due("h=32", hoursOf("h=32"), 0);
        due("h<33", hoursOf("h<33"), all);
        due("h>32", hoursOf("h>32"), 0);
        due("h<99", hoursOf("h<99"), all);
        due("h=99", hoursOf("h=99"), 0);
        due("h>99", hoursOf("h>99"), 0);
        due("!h<0", hoursOf("!h<0"), all);
        due("h<0|h=1", hoursOf("h<0|h=1"), 2);
        due("h=1|h<0", hoursOf("h=1|h<0"), 2);
        due("h=1&h<0", hoursOf("h=1&h<0"), 0);
        due("!h<99", hoursOf("!h<99"), 0);
        due("!h>99", hoursOf("!h>99"), all);
    }

    private static TwinTools ten(int lesserSort, int kind, int otherHouse) {
        TwinTools x = new TwinTools();
        x.person(kind, 0, 3);
        x.person(HAND, 0, otherHouse);
        for (int t = 0; t < 10; t++) {
            x.tool(t == 8 || t == 0 ? lesserSort : 1, t % 2);
        }
        x.twin(0, 1);
        x.twin(9, 8);
        return x;
    }

    private static int worthOf(TwinTools x, int tool, String e) {
        Checks.valley(x, "worth 1 " + e);
        return x.worth(tool, 23);
    }

    private static void sortAndToolTests() {
        CHECKS.sentence("TEST: s the SORT (0 .. 3).");
        for (int sort = 0; sort < 4; sort++) {
            due("s=" + sort, worthOf(ten(sort, HAND, 0), 8, "s=" + sort), 1);
            due("s<" + sort, worthOf(ten(sort, HAND, 0), 8, "s<" + sort), 0);
            due("s>" + sort, worthOf(ten(sort, HAND, 0), 8, "s>" + sort), 0);
            due("s<" + (sort + 1), worthOf(ten(sort, HAND, 0), 8, "s<" + (sort + 1)), 1);
        }
        CHECKS.sentence("TEST: t the number of its lesser TOOL.");
        due("0, of the greater one", worthOf(ten(0, HAND, 0), 1, "t=0"), 1);
        due("8, of the lesser one", worthOf(ten(0, HAND, 0), 8, "t=8"), 1);
        due("8, of the greater one", worthOf(ten(0, HAND, 0), 9, "t=8"), 1);
        due("never 9", worthOf(ten(0, HAND, 0), 9, "t>8"), 0);
        due("t<8", worthOf(ten(0, HAND, 0), 9, "t<8"), 0);
        due("t>7", worthOf(ten(0, HAND, 0), 9, "t>7"), 1);
        due("t<10", worthOf(ten(0, HAND, 0), 9, "t<10"), 1);
    }

    private static void kindAndHouseTests() {
        CHECKS.sentence("TEST: k the KIND of who holds that (0 .. 6).");
        for (int kind = HAND; kind <= TOLD; kind++) {
            due("k=" + kind, worthOf(ten(0, kind, 0), 9, "k=" + kind), 1);
            due("k<" + kind, worthOf(ten(0, kind, 0), 9, "k<" + kind), 0);
            due("k>" + kind, worthOf(ten(0, kind, 0), 9, "k>" + kind), 0);
        }
        CHECKS.sentence("TEST: x 1, if both TOOLS are held in one HOUSE, else 0.");
        due("one house", worthOf(ten(0, LATE, 3), 8, "x=1"), 1);
        due("one house, not 0", worthOf(ten(0, LATE, 3), 8, "x=0"), 0);
        due("one house, not above 1", worthOf(ten(0, LATE, 3), 8, "x>1"), 0);
        due("two houses", worthOf(ten(0, LATE, 0), 8, "x=0"), 1);
        due("two houses, not 1", worthOf(ten(0, LATE, 0), 8, "x=1"), 0);
        TwinTools x = ten(0, LATE, 0);
        x.give(9, 0);
        due("both held by one", worthOf(x, 8, "x=1"), 1);
    }

    private static void jointsAndNots() {
        CHECKS.sentence("E: T, or T|E. T: F, or F&T. F: !F: what holds.");
        int all = Checks.ALL_HOURS;
        due("& first", hoursOf("h=0|h=1&h=2"), 1);
        due("& first, turned", hoursOf("h=2&h=1|h=0"), 1);
        due("( first", hoursOf("(h=0|h=1)&h=1"), 2);
        due("! of its F alone", hoursOf("!h=0&h<2"), 2);
        due("! of its F alone, |", hoursOf("!h<24|h=3"), 8);
        due("! of a (", hoursOf("!(h=0|h>1)"), 2);
        due("five !", hoursOf("!!!!!h=0"), all - 1);
        due("four !", hoursOf("!!!!h=0"), 1);
        due("five (", hoursOf("(((((h=0)))))"), 1);
        due("deepest", hoursOf("h=9|h<8&(h=7|h<6&(h=5|h<4&(h=3|h<2&(h=1|h<1&(h=9|h=0&h<1)))))"), 0x2ab);
        due("long |", hoursOf("h=0|h=1|h=2|h=3|h=4|h=5|h=6|h=7|h=8|h=9|h=10|h=11|h=12|h=13|h=14|h=15|h=23"),
                0x80ffff);
        due("long &", hoursOf("h>0&h>1&h>2&h>3&h>4&h>5&h>6&h>7&h>8&h>9&h>10&h>11&h>12&h>13&h>14&h<17"), 3 << 15);
    }

    private static void worthOfNone() {
        CHECKS.sentence("14: -10001: NONE: also without a TWIN.");
        TwinTools x = pairUnder("worth 1 h<24");
        x.tool(0, 0);
        due("worth(0, 0)", x.worth(0, 0), 1);
        due("worth(1, 23)", x.worth(1, 23), 1);
        due("worth(-1, 0)", x.worth(-1, 0), NO_SUM);
        due("worth(3, 0)", x.worth(3, 0), NO_SUM);
        due("worth(LOW, 0)", x.worth(LOW, 0), NO_SUM);
        due("worth(HIGH, 0)", x.worth(HIGH, 0), NO_SUM);
        due("worth(0, -1)", x.worth(0, -1), NO_SUM);
        due("worth(0, 24)", x.worth(0, 24), NO_SUM);
        due("worth(0, HIGH)", x.worth(0, HIGH), NO_SUM);
        due("without a twin", x.worth(2, 0), NO_SUM);
        x.twin(0, 2);
        due("its twin was taken", x.worth(1, 0), NO_SUM);
        x.broken(0, true);
        due("a broken one has its worth", x.worth(2, 0), 1);
    }
}
