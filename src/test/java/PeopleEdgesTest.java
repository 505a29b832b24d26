/** The edges that the document names of PEOPLE, TOOLS, and of AT what they work: each sentence by itself. */
public final class PeopleEdgesTest {
    private static final int NONE = -1, BAD = -2, STATE = -3, FULL = -4, NOTHING = -5;
    private static final int LOW = Integer.MIN_VALUE, HIGH = Integer.MAX_VALUE;
    private static final int ALL = Checks.ALL_HOURS, FIRST = 1, LAST = 1 << 23;
    private static final int HAND = 0, BELL = 1, HOME = 2, GUESSING = 3, LIFTING = 4, LATE = 5, TOLD = 6;
    private static final Checks CHECKS = new Checks();

    public static void main(String[] args) {
        newObject();
        peopleAtMost();
        kindsHousesAndNumbers();
        freeHours();
        freeRefused();
        rows();
        rowsRefused();
        toolsAtMost();
        toolsRefused();
        toolsAtFirst();
        twins();
        twinsRefused();
        broken();
        give();
        of();
        who();
        atNone();
        atRefused();
        hand();
        bell();
        bellDearest();
        home();
        guessing();
        guessingDearest();
        lifting();
        late();
        told();
        toldElse();
        CHECKS.end("PeopleEdgesTest");
    }

    private static void due(String call, long got, long want) {
        CHECKS.due(call, got, want);
    }

    private static void newObject() {
        CHECKS.sentence("1: Nobody, no TOOLS.");
        TwinTools x = new TwinTools();
        for (int what = 0; what <= 6; what++) {
            due("count(" + what + ")", x.count(what), 0);
        }
        due("who(0, 0)", x.who(0, 0), NONE);
        due("of(0, 0)", x.of(0, 0), NONE);
        due("free(0, 0)", x.free(0, 0), NONE);
        due("row(0, 0, 0)", x.row(0, 0, 0), NONE);
        due("tool(0, 0)", x.tool(0, 0), NONE);
        due("twin(0, 1)", x.twin(0, 1), NONE);
        due("broken(0, true)", x.broken(0, true), NONE);
        due("give(0, 0)", x.give(0, 0), NONE);
        due("at(0, 0)", x.at(0, 0), NONE);
        due("fits(0)", x.fits(0), NONE);
        due("book(0, 0)", x.book(0, 0), NONE);
        due("as(0, 0)", x.as(0, 0), NONE);
        due("trial(0, 1, true)", x.trial(0, 1, true), NONE);
        due("image()", x.image(), 0);
    }

    private static void peopleAtMost() {
        CHECKS.sentence("PEOPLE are numbered from 0 on, 8 at most.");
        TwinTools x = new TwinTools();
        for (int p = 0; p < 8; p++) {
            due("nobody yet", x.who(p, 0), NONE);
            due("person " + p, x.person(p % 7, 0, 0), p);
            due("count(0)", x.count(0), p + 1);
        }
        CHECKS.sentence("4: FULL.");
        due("a ninth", x.person(HAND, 0, 0), FULL);
        due("a ninth, TOLD", x.person(TOLD, 9, 3), FULL);
        due("count(0)", x.count(0), 8);
        due("nobody is there", x.who(8, 0), NONE);
        CHECKS.sentence("4: NONE: kind; BAD: v, house; FULL: the first one told.");
        due("all three", x.person(7, 10, 4), NONE);
        due("kind and full", x.person(-1, 0, 0), NONE);
        due("v and full", x.person(HAND, 10, 0), BAD);
        due("house and full", x.person(HAND, 0, -1), BAD);
        TwinTools y = new TwinTools();
        due("kind and v", y.person(7, -1, 0), NONE);
        due("kind and house", y.person(-1, 0, 4), NONE);
    }

    private static void kindsHousesAndNumbers() {
        int[] kinds = {-1, 7, LOW, HIGH};
        int[] numbers = {-1, 10, LOW, HIGH};
        int[] houses = {-1, 4, LOW, HIGH};
        TwinTools x = new TwinTools();
        CHECKS.sentence("4: NONE: kind (0 .. 6).");
        for (int kind : kinds) {
            due("kind " + kind, x.person(kind, 0, 0), NONE);
        }
        CHECKS.sentence("4: BAD: v (0 .. 9).");
        for (int v : numbers) {
            due("v " + v, x.person(HAND, v, 0), BAD);
        }
        CHECKS.sentence("4: BAD: house (0 .. 3).");
        for (int house : houses) {
            due("house " + house, x.person(HAND, 0, house), BAD);
        }
        due("count(0)", x.count(0), 0);
        CHECKS.sentence("PEOPLE: the least and the greatest KIND, v and HOUSE.");
        due("least", x.person(0, 0, 0), 0);
        due("greatest", x.person(6, 9, 3), 1);
        for (int what = 0; what < 3; what++) {
            due("least " + what, x.who(0, what), 0);
        }
        due("greatest kind", x.who(1, 0), 6);
        due("greatest v", x.who(1, 1), 9);
        due("greatest house", x.who(1, 2), 3);
    }

    private static void freeHours() {
        CHECKS.sentence("5: One is FREE in HOURS (24 bits): in how many it was (none at first).");
        TwinTools x = new TwinTools();
        x.person(HAND, 0, 0);
        x.person(HAND, 0, 0);
        due("at first", x.who(0, 3), 0);
        due("none at first", x.free(0, LAST), 0);
        due("one", x.free(0, ALL), 1);
        due("all", x.free(0, 0), 24);
        due("none again", x.free(0, FIRST | LAST), 0);
        due("two", x.free(0, FIRST | LAST), 2);
        due("as bits", x.who(0, 3), FIRST | LAST);
        due("the other one was not", x.free(1, 0), 0);
    }

    private static void freeRefused() {
        CHECKS.sentence("5: NONE; BAD: more than 24 bits.");
        TwinTools x = Checks.people(HAND);
        int[] bad = {ALL + 1, ALL + 2, 1 << 30, -1, LOW, HIGH};
        for (int hours : bad) {
            due("free(0, " + hours + ")", x.free(0, hours), BAD);
            due("as it was", x.who(0, 3), ALL);
            due("NONE is told first", x.free(1, hours), NONE);
        }
        due("free(-1, 0)", x.free(-1, 0), NONE);
        due("free(1, 0)", x.free(1, 0), NONE);
        due("free(8, 0)", x.free(8, 0), NONE);
        due("free(LOW, 0)", x.free(LOW, 0), NONE);
        due("free(HIGH, 0)", x.free(HIGH, 0), NONE);
    }

    private static void rows() {
        CHECKS.sentence("6: .. a TOOL (0 .. 9; -1: nothing, as at first) .. : what it told (-5: nothing).");
        TwinTools x = Checks.people(TOLD, TOLD);
        for (int part = 0; part < 4; part++) {
            due("nothing at first, part " + part, x.row(0, part, 9 - part), NOTHING);
        }
        for (int part = 0; part < 4; part++) {
            due("part " + part, x.row(0, part, 0), 9 - part);
            due("TOOL 0 is something", x.row(0, part, -1), 0);
            due("nothing again", x.row(0, part, -1), NOTHING);
        }
        due("of another one", x.row(1, 0, 5), NOTHING);
        due("still nothing", x.row(0, 0, 3), NOTHING);
        due("no TOOL need be there", x.count(1), 0);
    }

    private static void rowsRefused() {
        CHECKS.sentence("6: NONE: person, part.");
        TwinTools x = Checks.people(HAND, BELL, HOME, GUESSING, LIFTING, LATE, TOLD);
        x.row(6, 0, 4);
        x.row(6, 3, 5);
        int[] parts = {-1, 4, LOW, HIGH};
        for (int part : parts) {
            due("part " + part, x.row(6, part, 0), NONE);
            due("NONE ahead of BAD", x.row(6, part, 10), NONE);
            due("NONE ahead of STATE", x.row(0, part, 0), NONE);
        }
        int[] people = {-1, 7, LOW, HIGH};
        for (int person : people) {
            due("person " + person, x.row(person, 0, 0), NONE);
            due("NONE ahead of BAD", x.row(person, 0, 10), NONE);
        }
        CHECKS.sentence("6: BAD: a TOOL below -1 or above 9.");
        int[] tools = {-2, 10, -5, LOW, HIGH};
        for (int tool : tools) {
            due("tool " + tool, x.row(6, 0, tool), BAD);
            due("BAD ahead of STATE", x.row(0, 0, tool), BAD);
        }
        CHECKS.sentence("6: STATE: it is of another KIND.");
        for (int kind = HAND; kind < TOLD; kind++) {
            due("kind " + kind, x.row(kind, 0, 0), STATE);
            due("kind " + kind + ", nothing", x.row(kind, 3, -1), STATE);
        }
        due("as it was", x.row(6, 0, -1), 4);
        due("as it was", x.row(6, 3, -1), 5);
    }

    private static void toolsAtMost() {
        CHECKS.sentence("TOOLS are numbered from 0 on, 10 at most.");
        TwinTools x = Checks.people(HAND, HAND);
        for (int t = 0; t < 10; t++) {
            due("no such tool yet", x.of(t, 0), NONE);
            due("tool " + t, x.tool(t % 4, t % 2), t);
            due("sort", x.of(t, 0), t % 4);
            due("who holds it", x.of(t, 1), t % 2);
        }
        CHECKS.sentence("7: FULL.");
        due("an eleventh", x.tool(0, 0), FULL);
        due("count(1)", x.count(1), 10);
        due("no such tool", x.of(10, 0), NONE);
        due("held", x.who(0, 4), 5);
        CHECKS.sentence("7: NONE: person; BAD: sort; FULL: the first one told.");
        due("person and sort and full", x.tool(4, 2), NONE);
        due("person and full", x.tool(0, -1), NONE);
        due("sort and full", x.tool(4, 0), BAD);
        due("person and sort", Checks.people(HAND).tool(-1, 1), NONE);
    }

    private static void toolsRefused() {
        TwinTools x = Checks.people(HAND);
        CHECKS.sentence("7: BAD: sort (0 .. 3).");
        int[] sorts = {-1, 4, LOW, HIGH};
        for (int sort : sorts) {
            due("sort " + sort, x.tool(sort, 0), BAD);
        }
        CHECKS.sentence("7: NONE: person.");
        int[] people = {-1, 1, 8, LOW, HIGH};
        for (int person : people) {
            due("person " + person, x.tool(0, person), NONE);
        }
        due("count(1)", x.count(1), 0);
    }

    private static void toolsAtFirst() {
        CHECKS.sentence("TOOLS: BROKEN or not (not at first).");
        TwinTools x = Checks.people(HAND, HAND);
        Checks.pairs(x, 0, 1);
        x.broken(0, true);
        x.broken(1, true);
        due("a new one", x.of(x.tool(0, 0), 3), 0);
        CHECKS.sentence("TOOLS: with a TWIN (another TOOL) or none (at first).");
        due("a new one's", x.of(2, 2), NOTHING);
        due("a new one has no hours", x.of(2, 4), 0);
        due("it is not worked at", x.at(0, 0), NOTHING);
        CHECKS.sentence("A PAIR .. is told by the lesser number.");
        TwinTools y = Checks.people(HAND, HAND);
        for (int t = 0; t < 10; t++) {
            y.tool(0, t < 9 ? 0 : 1);
        }
        y.twin(9, 8);
        due("8 and 9", y.hour(0, 0), 1 << 8);
        y.twin(0, 9);
        due("0 and 9", y.hour(0, 0), 1);
    }

    private static void twins() {
        CHECKS.sentence("8: Two TOOLS become TWINS: 1 if they were, else 0.");
        TwinTools x = Checks.people(HAND);
        for (int t = 0; t < 10; t++) {
            x.tool(t % 4, 0);
        }
        due("first and last", x.twin(0, 9), 0);
        due("again", x.twin(0, 9), 1);
        due("turned", x.twin(9, 0), 1);
        due("of the one", x.of(0, 2), 9);
        due("of the other", x.of(9, 2), 0);
        CHECKS.sentence("8: (those they had have none then).");
        x.twin(1, 8);
        due("both had one", x.twin(9, 1), 0);
        due("0 has none", x.of(0, 2), NOTHING);
        due("8 has none", x.of(8, 2), NOTHING);
        due("1 has 9", x.of(1, 2), 9);
        due("9 has 1", x.of(9, 2), 1);
        due("those without one", x.twin(0, 8), 0);
        due("one of both had one", x.twin(1, 5), 0);
        due("9 has none", x.of(9, 2), NOTHING);
        due("0 has 8 still", x.of(0, 2), 8);
        due("8 has 0 still", x.of(8, 2), 0);
    }

    private static void twinsRefused() {
        CHECKS.sentence("8: NONE; BAD: one TOOL.");
        TwinTools x = Checks.people(HAND);
        Checks.pairs(x, 0, 0);
        due("one", x.twin(0, 0), BAD);
        due("the last one", x.twin(1, 1), BAD);
        due("they are as they were", x.of(0, 2) * 10 + x.of(1, 2), 10);
        int[] tools = {-1, 2, 10, -5, LOW, HIGH};
        for (int t : tools) {
            due("twin(" + t + ", 0)", x.twin(t, 0), NONE);
            due("twin(0, " + t + ")", x.twin(0, t), NONE);
            due("NONE is told first", x.twin(t, t), NONE);
        }
        due("they are as they were", x.of(0, 2) * 10 + x.of(1, 2), 10);
    }

    private static void broken() {
        CHECKS.sentence("9: A TOOL is BROKEN, or not: whether it was.");
        TwinTools x = Checks.people(HAND);
        for (int t = 0; t < 10; t++) {
            x.tool(0, 0);
        }
        due("not, as it was", x.broken(9, false), 0);
        due("is", x.broken(9, true), 0);
        due("is, as it was", x.broken(9, true), 1);
        due("the first is not", x.broken(0, true), 0);
        due("the first is, the last too", x.of(0, 3) + x.of(9, 3), 2);
        due("those between are not", x.of(1, 3) + x.of(8, 3), 0);
        due("not again", x.broken(9, false), 1);
        due("the first is still", x.of(0, 3), 1);
        CHECKS.sentence("9: NONE.");
        int[] tools = {-1, 10, 32, LOW, HIGH};
        for (int t : tools) {
            due("broken(" + t + ", true)", x.broken(t, true), NONE);
            due("broken(" + t + ", false)", x.broken(t, false), NONE);
        }
        due("as it was", x.of(0, 3) * 10 + x.of(9, 3), 10);
    }

    private static void give() {
        CHECKS.sentence("10: A TOOL is held by another one: by whom it was.");
        TwinTools x = Checks.people(HAND, HAND, HAND, HAND, HAND, HAND, HAND, HAND);
        for (int t = 0; t < 10; t++) {
            x.tool(0, 0);
        }
        due("first to last", x.give(9, 7), 0);
        due("last to the same", x.give(9, 7), 7);
        due("last to first", x.give(9, 0), 7);
        due("it holds all", x.who(0, 4), 10);
        CHECKS.sentence("10: NONE.");
        int[] tools = {-1, 10, LOW, HIGH};
        for (int t : tools) {
            due("give(" + t + ", 0)", x.give(t, 0), NONE);
        }
        int[] people = {-1, 8, LOW, HIGH};
        for (int p : people) {
            due("give(0, " + p + ")", x.give(0, p), NONE);
        }
        due("as it was", x.of(0, 1), 0);
    }

    private static void of() {
        CHECKS.sentence("11: .. 2 its TWIN (-5).");
        TwinTools x = Checks.people(HAND, HAND);
        Checks.pairs(x, 0, 1, 0);
        due("of(2, 2)", x.of(2, 2), NOTHING);
        due("of(1, 2)", x.of(1, 2), 0);
        CHECKS.sentence("11: .. 4 GONE as bits (0 without a TWIN).");
        due("all hours", x.of(0, 4), ALL);
        x.free(1, LAST);
        due("the last hour", x.of(1, 4), LAST);
        x.free(0, FIRST | LAST);
        x.free(1, FIRST);
        due("the first hour", x.of(0, 4), FIRST);
        due("without a twin", x.of(2, 4), 0);
        x.free(1, 0);
        due("no hour", x.of(0, 4), 0);
        CHECKS.sentence("11: NONE.");
        int[] whats = {-1, 5, LOW, HIGH};
        for (int what : whats) {
            due("of(0, " + what + ")", x.of(0, what), NONE);
        }
        int[] tools = {-1, 3, 10, LOW, HIGH};
        for (int t : tools) {
            for (int what = 0; what < 5; what++) {
                due("of(" + t + ", " + what + ")", x.of(t, what), NONE);
            }
        }
    }

    private static void who() {
        CHECKS.sentence("12: .. 4 how many TOOLS it holds.");
        TwinTools x = Checks.people(HAND, HAND);
        due("none", x.who(0, 4), 0);
        x.tool(0, 0);
        due("one", x.who(0, 4), 1);
        due("the other one none", x.who(1, 4), 0);
        x.give(0, 1);
        due("given away", x.who(0, 4), 0);
        CHECKS.sentence("12: NONE.");
        int[] whats = {-1, 5, LOW, HIGH};
        for (int what : whats) {
            due("who(0, " + what + ")", x.who(0, what), NONE);
        }
        int[] people = {-1, 2, 8, LOW, HIGH};
        for (int p : people) {
            for (int what = 0; what < 5; what++) {
                due("who(" + p + ", " + what + ")", x.who(p, what), NONE);
            }
        }
    }

    private static void atNone() {
        CHECKS.sentence("AT .. (at none, if it is not FREE then, but as told of LATE, LIFTING).");
        for (int kind : new int[] {HAND, BELL, HOME, GUESSING, TOLD}) {
            TwinTools x = Checks.people(kind, HAND);
            Checks.pairs(x, 0, 1);
            Checks.valley(x, "bell 1");
            x.row(0, 0, 0);
            x.row(0, 3, 0);
            x.free(0, FIRST);
            due("kind " + kind + ", free first", x.at(0, 0), 0);
            due("kind " + kind + ", not last", x.at(0, 23), NOTHING);
            due("kind " + kind + ", not next", x.at(0, 1), NOTHING);
            x.free(0, LAST);
            due("kind " + kind + ", not first", x.at(0, 0), NOTHING);
            due("kind " + kind + ", free last", x.at(0, 23), 0);
            x.free(0, 0);
            due("kind " + kind + ", never", x.at(0, 0), NOTHING);
        }
        CHECKS.sentence("13: (-5: none): without TOOLS.");
        for (int kind = HAND; kind <= TOLD; kind++) {
            TwinTools x = Checks.people(kind, HAND);
            due("kind " + kind + ", no tools at all", x.at(0, 0), NOTHING);
            Checks.pairs(x, 1, 1);
            due("kind " + kind + ", it holds none", x.at(0, 0), NOTHING);
            x.tool(0, 0);
            due("kind " + kind + ", one without a TWIN", x.at(0, 0), NOTHING);
        }
    }

    private static void atRefused() {
        CHECKS.sentence("13: NONE.");
        TwinTools x = Checks.people(HAND, HAND);
        Checks.pairs(x, 0, 1);
        int[] hours = {-1, 24, 31, 32, LOW, HIGH};
        for (int h : hours) {
            due("at(0, " + h + ")", x.at(0, h), NONE);
        }
        int[] people = {-1, 2, 8, LOW, HIGH};
        for (int p : people) {
            due("at(" + p + ", 0)", x.at(p, 0), NONE);
        }
    }

    private static void hand() {
        CHECKS.sentence("HAND: the least one that is FIT (not BROKEN, and has a TWIN).");
        TwinTools x = Checks.people(HAND, HAND);
        for (int t = 0; t < 10; t++) {
            x.tool(0, 0);
        }
        due("none has a TWIN", x.at(0, 0), NOTHING);
        x.twin(8, 9);
        due("the first that has", x.at(0, 0), 8);
        x.broken(8, true);
        due("the last, though its TWIN is BROKEN", x.at(0, 0), 9);
        x.broken(9, true);
        due("all that have are BROKEN", x.at(0, 0), NOTHING);
        x.twin(0, 1);
        due("TOOL 0", x.at(0, 0), 0);
        x.give(0, 1);
        due("it no longer holds it", x.at(0, 0), 1);
    }

    private static void bell() {
        CHECKS.sentence("BELL: only in HOURS that are a multiple of bell.");
        int[] bells = {0, 1, 2, 7, 12, 23, 24, 99};
        for (int bell : bells) {
            TwinTools x = Checks.people(BELL, HAND);
            Checks.pairs(x, 0, 1);
            Checks.valley(x, "bell " + bell);
            for (int h = 0; h < 24; h++) {
                boolean rings = bell == 0 || h % bell == 0;
                due("bell " + bell + ", hour " + h, x.at(0, h), rings ? 0 : NOTHING);
            }
        }
        TwinTools y = Checks.people(BELL, HAND);
        Checks.pairs(y, 0, 1);
        for (int h = 0; h < 24; h++) {
            due("bell without, hour " + h, y.at(0, h), h % 6 == 0 ? 0 : NOTHING);
        }
    }

    private static void bellDearest() {
        CHECKS.sentence("BELL: .. the one of which the PAIR has the most WORTH then (of several the least).");
        TwinTools x = Checks.people(BELL, HAND);
        Checks.pairs(x, 0, 1, 0, 1, 0, 1, 0, 1, 0, 1);
        due("all alike", x.at(0, 0), 0);
        Checks.valley(x, "worth 3 t>3&t<8;bell 1");
        due("two alike, the least", x.at(0, 0), 4);
        x.broken(4, true);
        due("the least is BROKEN", x.at(0, 0), 6);
        x.broken(6, true);
        due("the rest alike", x.at(0, 0), 0);
        Checks.valley(x, "less 3 t<8;less 9 t>7;bell 1");
        due("all below 0, the most of these", x.at(0, 5), 0);
        Checks.valley(x, "less 3 t<8;less 2 t>7;bell 1");
        due("all below 0, the last", x.at(0, 5), 8);
        Checks.valley(x, "worth 1 t=2&h=22|t=8&h=23;bell 1");
        due("then: hour 22", x.at(0, 22), 2);
        due("then: hour 23", x.at(0, 23), 8);
        x.broken(9, true);
        due("its TWIN may be BROKEN", x.at(0, 23), 8);
    }

    private static void home() {
        CHECKS.sentence("HOME: the least one that is FIT and of which the TWIN is held in the same HOUSE.");
        TwinTools x = new TwinTools();
        x.person(HOME, 0, 3);
        x.person(HAND, 0, 0);
        x.person(HAND, 0, 3);
        x.free(0, ALL);
        Checks.pairs(x, 0, 1, 0, 1, 0, 2, 0, 2, 0, 1);
        due("the least of two", x.at(0, 0), 4);
        x.broken(4, true);
        due("the other one", x.at(0, 0), 6);
        x.broken(7, true);
        due("a BROKEN TWIN is held too", x.at(0, 0), 6);
        CHECKS.sentence("HOME: .. without one as HAND.");
        x.broken(6, true);
        due("the least one", x.at(0, 0), 0);
        x.broken(0, true);
        x.broken(2, true);
        due("the last one", x.at(0, 0), 8);
        x.broken(8, true);
        due("none at all", x.at(0, 0), NOTHING);
        x.broken(8, false);
        x.broken(0, false);
        x.give(9, 2);
        due("with one, the least one or not", x.at(0, 0), 8);
        x.give(9, 1);
        due("its TWIN given to another HOUSE", x.at(0, 0), 0);
    }

    private static void guessing() {
        CHECKS.sentence("GUESSING: .. of which the TWIN is held by another one who is FREE then.");
        TwinTools x = Checks.people(GUESSING, HAND);
        Checks.pairs(x, 0, 1, 0, 0);
        x.free(1, FIRST);
        due("first", x.at(0, 0), 0);
        due("not last", x.at(0, 23), NOTHING);
        x.free(1, LAST);
        due("not first", x.at(0, 0), NOTHING);
        due("last", x.at(0, 23), 0);
        x.broken(1, true);
        due("a BROKEN TWIN is held too", x.at(0, 23), 0);
        x.broken(0, true);
        due("its own TWINS do not count", x.at(0, 23), NOTHING);
        x.give(3, 1);
        due("held by another one", x.at(0, 23), 2);
        TwinTools y = Checks.people(GUESSING, LATE);
        Checks.pairs(y, 0, 1);
        y.free(1, FIRST);
        due("FREE, not when it comes", y.at(0, 0), 0);
        TwinTools z = Checks.people(HAND, GUESSING, HAND);
        Checks.pairs(z, 0, 1);
        z.free(2, 0);
        due("held by the first one", z.at(1, 0), 1);
        z.give(0, 2);
        due("given to one who is not FREE", z.at(1, 0), NOTHING);
        TwinTools w = Checks.people(GUESSING, HAND, HAND);
        Checks.pairs(w, 0, 1);
        w.free(1, 0);
        due("a third one who is FREE does not count", w.at(0, 0), NOTHING);
    }

    private static void guessingDearest() {
        CHECKS.sentence("GUESSING: .. the one of which the PAIR has the most WORTH (of several the least).");
        TwinTools x = Checks.people(GUESSING, HAND, HAND);
        Checks.pairs(x, 1, 0, 0, 2, 0, 1, 2, 0, 1, 0);
        due("all alike", x.at(0, 0), 1);
        Checks.valley(x, "worth 1 t=4|t=6");
        due("two alike", x.at(0, 0), 4);
        x.free(1, 0);
        due("one of which nobody is FREE", x.at(0, 0), 7);
        Checks.valley(x, "less 2 h<24;less 1 t=2");
        due("below 0", x.at(0, 0), 7);
        x.free(1, ALL);
        due("below 0, of several the least", x.at(0, 0), 1);
        Checks.valley(x, "worth 1 t=8");
        due("the last one", x.at(0, 23), 9);
    }

    private static void lifting() {
        CHECKS.sentence("LIFTING: as BELL; where that is at none, FREE or not, at TOOL v.");
        TwinTools x = new TwinTools();
        x.person(LIFTING, 9, 0);
        x.person(HAND, 0, 0);
        Checks.pairs(x, 0, 1, 0, 1, 1, 1, 1, 1, 1, 0);
        x.free(0, FIRST | LAST);
        due("as BELL", x.at(0, 0), 0);
        due("FREE, no bell", x.at(0, 23), 9);
        due("a bell, not FREE", x.at(0, 6), 9);
        due("no bell, not FREE", x.at(0, 1), 9);
        x.free(0, 0);
        due("never FREE", x.at(0, 0), 9);
        CHECKS.sentence("LIFTING: .. if it holds that, and it is FIT.");
        x.broken(9, true);
        due("BROKEN", x.at(0, 1), NOTHING);
        x.broken(9, false);
        x.twin(8, 7);
        due("without a TWIN", x.at(0, 1), NOTHING);
        x.twin(8, 9);
        due("with one again", x.at(0, 1), 9);
        x.give(9, 1);
        due("not held", x.at(0, 1), NOTHING);
        TwinTools y = new TwinTools();
        y.person(LIFTING, 2, 0);
        y.person(LIFTING, 0, 0);
        Checks.pairs(y, 0, 1);
        due("there is no TOOL v", y.at(0, 5), NOTHING);
        due("TOOL 0 is held by the other one", y.at(1, 5), NOTHING);
        y.give(0, 1);
        due("TOOL 0", y.at(1, 5), 0);
    }

    private static void late() {
        CHECKS.sentence("LATE: .. FREE v HOURS ahead (24 more, if that is below 0) in place of this HOUR.");
        int[] frees = {0, 14, 15, 22, 23};
        for (int v = 0; v <= 9; v++) {
            TwinTools x = new TwinTools();
            x.person(LATE, v, 0);
            x.person(HAND, 0, 0);
            Checks.pairs(x, 0, 1);
            for (int free : frees) {
                x.free(0, 1 << free);
                // It comes v hours behind the one in which it is free, over midnight too.
                int comes = free + v < 24 ? free + v : free + v - 24;
                for (int h = 0; h < 24; h++) {
                    due("v " + v + ", free " + free + ", hour " + h, x.at(0, h), h == comes ? 0 : NOTHING);
                }
            }
        }
        CHECKS.sentence("LATE: as HOME.");
        TwinTools y = new TwinTools();
        y.person(LATE, 9, 2);
        y.person(HAND, 0, 2);
        y.person(HAND, 0, 1);
        y.free(0, LAST);
        Checks.pairs(y, 0, 2, 0, 1);
        due("in the same HOUSE", y.at(0, 8), 2);
        y.broken(2, true);
        due("as HAND", y.at(0, 8), 0);
        due("not when it is FREE", y.at(0, 23), NOTHING);
    }

    private static void told() {
        CHECKS.sentence("TOLD: the TOOL that its ROW tells for the HOUR modulo 4.");
        TwinTools x = Checks.people(TOLD, HAND);
        for (int t = 0; t < 10; t++) {
            x.tool(0, 0);
        }
        int[] tools = {9, 0, 4, 7};
        for (int part = 0; part < 4; part++) {
            x.row(0, part, tools[part]);
        }
        for (int h = 0; h < 24; h++) {
            due("hour " + h, x.at(0, h), tools[h % 4]);
        }
        CHECKS.sentence("TOLD: .. if it holds that (BROKEN or not).");
        x.broken(9, true);
        due("BROKEN", x.at(0, 0), 9);
        x.twin(9, 8);
        due("BROKEN, with a TWIN", x.at(0, 20), 9);
        x.give(8, 1);
        due("BROKEN, it waits", x.hour(0, 1), 1 << 9 | 1 << 8);
        x.free(0, ALL - 1);
        due("not FREE then", x.at(0, 0), NOTHING);
        due("FREE in the next one", x.at(0, 4), 9);
    }

    private static void toldElse() {
        CHECKS.sentence("TOLD: .. else as GUESSING.");
        TwinTools x = Checks.people(TOLD, HAND);
        Checks.pairs(x, 0, 1, 0, 1, 1, 1);
        x.row(0, 1, 4);
        x.row(0, 2, 9);
        Checks.valley(x, "worth 1 t=2");
        due("nothing told", x.at(0, 0), 2);
        due("told what another one holds", x.at(0, 1), 2);
        due("told what is not there", x.at(0, 2), 2);
        x.tool(0, 1);
        x.tool(0, 1);
        x.tool(0, 1);
        x.tool(0, 0);
        due("told what came later", x.at(0, 2), 9);
        x.row(0, 2, -1);
        due("told nothing again", x.at(0, 2), 2);
        x.free(1, 0);
        due("as GUESSING at none", x.at(0, 2), NOTHING);
        x.row(0, 2, 0);
        due("told, nobody else FREE", x.at(0, 2), 0);
    }
}
