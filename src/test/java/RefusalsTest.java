import java.util.ArrayList;
import java.util.List;

/** REFUSALS, of several the first one told: they change nothing; what is asked changes nothing. */
public final class RefusalsTest {
    private static final int NONE = -1, BAD = -2, STATE = -3, FULL = -4, OTHER_KIND = -6, UNJOINED = -9;
    private static final int NO_SUM = -10001;
    private static final int LOW = Integer.MIN_VALUE, HIGH = Integer.MAX_VALUE;
    private static final int MOST_CALLS = 512;
    private static final Checks CHECKS = new Checks();

    /** One call, or several, of which the last one answers. */
    private interface Call {
        long of(TwinTools x);
    }

    /** A way to make an object, and all that it answers then. */
    private static final class Scene {
        final Call make;
        final List<Long> before;

        Scene(Call make) {
            this.make = make;
            before = answers(made());
        }

        TwinTools made() {
            TwinTools x = new TwinTools();
            make.of(x);
            return x;
        }

        void same(String call, Call asked, long want) {
            TwinTools x = made();
            CHECKS.due(call, asked.of(x), want);
            same(call, x);
        }

        void same(String call, TwinTools x) {
            List<Long> after = answers(x);
            CHECKS.due(call + ", then as many answers", after.size(), before.size());
            for (int i = 0; i < Math.min(after.size(), before.size()); i++) {
                CHECKS.due(call + ", then answer " + i, after.get(i), before.get(i));
            }
        }
    }

    public static void main(String[] args) {
        Scene some = new Scene(RefusalsTest::some);
        Scene full = new Scene(RefusalsTest::full);
        Scene empty = new Scene(x -> 0);
        scenesStayBelowTheMostCalls();
        noneOfSome(some);
        noneOfSomeSums(some);
        badOfSome(some);
        stateOfSome(some);
        fullOfFull(full);
        firstOneTold(some, full);
        noneOfEmpty(empty);
        askedOfSome(some);
        askedDays(some);
        actChangesTheTraceAlone(some);
        CHECKS.end("RefusalsTest");
    }

    // ---- scenes

    /** Something of everything, nothing full; THE IMAGE is of less. */
    private static int some(TwinTools x) {
        Checks.valley(x, "worth 9 h<12&!s=1;less 2 x=1;bell 4");
        for (int p = 0; p < 7; p++) {
            x.person(p, p + 1, p % 2);
            x.free(p, 0xf0ff0f >> p);
        }
        for (int t = 0; t < 6; t++) {
            x.tool(t % 4, t);
        }
        x.twin(0, 1);
        x.twin(2, 5);
        x.row(6, 1, 4);
        x.trial(0, 1, true);
        x.book(1, 0);
        x.image();
        x.free(0, 0xffffff);
        x.give(3, 6);
        x.row(6, 2, 3);
        x.broken(5, true);
        x.trial(2, 4, false);
        x.book(0, 2);
        Checks.feed(x, "bell 2");
        return x.act(4, 2, 3);
    }

    /** As much of everything as there may be. */
    private static int full(TwinTools x) {
        for (int i = 0; i < 5; i++) {
            Checks.valley(x, "bell " + i);
        }
        for (int p = 0; p < 8; p++) {
            x.person(p % 7, p, p % 4);
            x.free(p, 0xffffff >> p);
        }
        for (int t = 0; t < 10; t++) {
            x.tool(t % 4, t % 8);
        }
        for (int t = 0; t < 10; t += 2) {
            x.twin(t, t + 1);
        }
        for (int i = 0; i < 12; i++) {
            x.trial(i % 5, 9, false);
            x.book(i, i % 10);
        }
        for (int i = 0; i < 100; i++) {
            x.feed('w');
        }
        return x.act(4, 2, 3);
    }

    private static final int CALLS_OF_SOME = 75, CALLS_OF_FULL = 191;

    private static void scenesStayBelowTheMostCalls() {
        CHECKS.sentence("An object is used for at most 512 calls: so are those of this test.");
        int most = answers(made(RefusalsTest::full)).size() + CALLS_OF_FULL + 2;
        CHECKS.due(most + " calls", most <= MOST_CALLS ? 1 : 0, 1);
        int some = answers(made(RefusalsTest::some)).size() + CALLS_OF_SOME + 2;
        CHECKS.due(some + " calls", some <= MOST_CALLS ? 1 : 0, 1);
    }

    private static TwinTools made(Call make) {
        TwinTools x = new TwinTools();
        make.of(x);
        return x;
    }

    /** All that can be seen of an object, in under 320 calls; it is spoiled then. */
    private static List<Long> answers(TwinTools x) {
        List<Long> a = new ArrayList<>();
        for (int what = 0; what < 7; what++) {
            a.add((long) x.count(what));
        }
        for (int i = 0; i < 7; i++) {
            a.add((long) x.trace(i));
        }
        long people = a.get(0);
        long tools = a.get(1);
        toolsAndPeople(x, a, people, tools);
        // Behind more calls of the making there is room for fewer of the looking.
        hoursAndDays(x, a, tools == 10 ? new int[] {0} : new int[] {0, 5, 23});
        for (int part = 0; part < 4; part++) {
            a.add((long) x.row(6, part, -1));
        }
        tapeAndImage(x, a);
        return a;
    }

    private static void toolsAndPeople(TwinTools x, List<Long> a, long people, long tools) {
        for (int p = 0; p < people; p++) {
            for (int what = 0; what < 5; what++) {
                a.add((long) x.who(p, what));
            }
            a.add((long) x.as(p, p % 7));
            a.add((long) x.away(p));
        }
        for (int t = 0; t < tools; t++) {
            for (int what = 0; what < 5; what++) {
                a.add((long) x.of(t, what));
            }
            a.add((long) x.fits(t));
        }
    }

    private static void hoursAndDays(TwinTools x, List<Long> a, int[] hours) {
        for (int h : hours) {
            for (int what = 0; what < 5; what++) {
                a.add((long) x.hour(h, what));
            }
            for (int t = 0; t < 6; t++) {
                a.add((long) x.worth(t, h));
                a.add((long) x.at(t + 1, h));
            }
        }
        for (int what = 0; what < 4; what++) {
            a.add((long) x.day(what));
        }
        a.add((long) x.change(0));
        a.add((long) x.change(1));
        a.add((long) x.worst());
        a.add((long) x.join(-1));
        a.add((long) x.find(0));
        a.add((long) x.find(1));
        a.add((long) x.looked());
    }

    private static void tapeAndImage(TwinTools x, List<Long> a) {
        a.add((long) x.valley());
        a.add((long) x.day(3));
        a.add((long) x.undo());
        for (int what = 0; what < 7; what++) {
            a.add((long) x.count(what));
        }
        for (int i = 0; i < 6; i++) {
            a.add((long) x.of(i, 1));
            a.add((long) x.of(i, 3));
            a.add((long) x.who(i, 3));
        }
        a.add((long) x.row(6, 1, -1));
        a.add((long) x.row(6, 2, -1));
        a.add((long) x.find(0));
        a.add((long) x.looked());
        a.add((long) x.valley());
        a.add((long) x.day(3));
    }

    // ---- refusals

    private static final int[] NO_PEOPLE = {-1, 7, 8, LOW, HIGH};
    private static final int[] NO_TOOLS = {-1, 6, 10, LOW, HIGH};
    private static final int[] NO_HOURS = {-1, 24, LOW, HIGH};

    private static void noneOfSome(Scene s) {
        CHECKS.sentence("REFUSALS: NONE there is no such one of the PEOPLE: it changes nothing.");
        for (int p : NO_PEOPLE) {
            s.same("free " + p, x -> x.free(p, 1), NONE);
            s.same("row " + p, x -> x.row(p, 0, 1), NONE);
            s.same("tool " + p, x -> x.tool(0, p), NONE);
            s.same("give " + p, x -> x.give(0, p), NONE);
            s.same("who " + p, x -> x.who(p, 0), NONE);
            s.same("at " + p, x -> x.at(p, 0), NONE);
            s.same("as " + p, x -> x.as(p, 0), NONE);
        }
        CHECKS.sentence("REFUSALS: NONE there is no such TOOL: it changes nothing.");
        for (int t : NO_TOOLS) {
            s.same("twin " + t, x -> x.twin(t, 0), NONE);
            s.same("twin with " + t, x -> x.twin(0, t), NONE);
            s.same("broken " + t, x -> x.broken(t, true), NONE);
            s.same("give " + t, x -> x.give(t, 0), NONE);
            s.same("of " + t, x -> x.of(t, 0), NONE);
            s.same("trial " + t, x -> x.trial(t, 0, true), NONE);
            s.same("trial with " + t, x -> x.trial(0, t, true), NONE);
            s.same("fits " + t, x -> x.fits(t), NONE);
            s.same("book " + t, x -> x.book(0, t), NONE);
        }
        CHECKS.sentence("REFUSALS: NONE there is no such HOUR, KIND, what, part, i: it changes nothing.");
        for (int h : NO_HOURS) {
            s.same("at hour " + h, x -> x.at(0, h), NONE);
            s.same("book hour " + h, x -> x.book(h, 0), NONE);
            s.same("kind " + h, x -> x.person(h, 0, 0), NONE);
            s.same("as kind " + h, x -> x.as(0, h), NONE);
            s.same("of what " + h, x -> x.of(0, h), NONE);
            s.same("who what " + h, x -> x.who(0, h), NONE);
            s.same("change what " + h, x -> x.change(h), NONE);
            s.same("find what " + h, x -> x.find(h), NONE);
            s.same("count what " + h, x -> x.count(h), NONE);
            s.same("row part " + h, x -> x.row(6, h, 1), NONE);
            s.same("trace " + h, x -> x.trace(h), NONE);
        }
    }

    private static void noneOfSomeSums(Scene s) {
        CHECKS.sentence("REFUSALS: -10001: NONE: it changes nothing.");
        for (int h : NO_HOURS) {
            s.same("worth hour " + h, x -> x.worth(0, h), NO_SUM);
            s.same("hour " + h, x -> x.hour(h, 0), NO_SUM);
            s.same("hour what " + h, x -> x.hour(0, h), NO_SUM);
            s.same("day " + h, x -> x.day(h), NO_SUM);
            s.same("away " + h, x -> x.away(h), NO_SUM);
            s.same("worth " + h, x -> x.worth(h, 0), NO_SUM);
        }
        s.same("worth without a TWIN", x -> x.worth(4, 0), NO_SUM);
        s.same("join 6", x -> x.join(6), NO_SUM);
        s.same("join -2", x -> x.join(-2), NO_SUM);
        CHECKS.sentence("REFUSALS: NO: it changes nothing.");
        s.same("once 11", x -> x.once(11, 0, 1, 0), TwinTools.NO);
        s.same("once n 5", x -> x.once(1, 1, 5, 0), TwinTools.NO);
    }

    private static void badOfSome(Scene s) {
        CHECKS.sentence("REFUSALS: BAD a number is not as told: it changes nothing.");
        s.same("feed 128", x -> x.feed(128), BAD);
        s.same("feed -1", x -> x.feed(-1), BAD);
        s.same("person v 10", x -> x.person(0, 10, 0), BAD);
        s.same("person v -1", x -> x.person(0, -1, 0), BAD);
        s.same("person house 4", x -> x.person(0, 0, 4), BAD);
        s.same("person house -1", x -> x.person(0, 0, -1), BAD);
        s.same("free more", x -> x.free(0, 1 << 24), BAD);
        s.same("free below", x -> x.free(0, -1), BAD);
        s.same("row 10", x -> x.row(6, 2, 10), BAD);
        s.same("row -2", x -> x.row(6, 2, -2), BAD);
        s.same("tool sort 4", x -> x.tool(4, 0), BAD);
        s.same("tool sort -1", x -> x.tool(-1, 0), BAD);
        s.same("twin one", x -> x.twin(0, 0), BAD);
        s.same("trial one", x -> x.trial(0, 0, true), BAD);
    }

    private static void stateOfSome(Scene s) {
        CHECKS.sentence("REFUSALS: STATE as told: it changes nothing.");
        for (int p = 0; p < 6; p++) {
            int one = p;
            s.same("row of kind " + p, x -> x.row(one, 2, 1), STATE);
        }
        new Scene(x -> x.person(6, 1, 1)).same("undo", x -> x.undo(), STATE);
        CHECKS.sentence("REFUSALS: -6: it is of another KIND: it changes nothing.");
        s.same("as", x -> x.as(4, 6), OTHER_KIND);
    }

    private static void fullOfFull(Scene s) {
        CHECKS.sentence("REFUSALS: FULL: it changes nothing.");
        s.same("feed", x -> x.feed('b'), FULL);
        s.same("valley", x -> x.valley(), FULL);
        s.same("person", x -> x.person(6, 9, 3), FULL);
        s.same("tool", x -> x.tool(3, 7), FULL);
        s.same("trial", x -> x.trial(0, 1, true), FULL);
        s.same("book", x -> x.book(23, 9), FULL);
        CHECKS.sentence("REFUSALS: -9: it changes nothing.");
        s.same("join", x -> x.join(9), UNJOINED);
        s.same("join -1", x -> x.join(-1), UNJOINED);
    }

    private static void firstOneTold(Scene some, Scene full) {
        CHECKS.sentence("REFUSALS, of several the first one told.");
        full.same("feed: BAD; FULL", x -> x.feed(128), BAD);
        full.same("person: NONE; BAD; FULL", x -> x.person(7, 10, 4), NONE);
        full.same("person: NONE; FULL", x -> x.person(-1, 0, 0), NONE);
        full.same("person: BAD; FULL", x -> x.person(0, 0, 4), BAD);
        some.same("person: NONE; BAD", x -> x.person(7, 10, 0), NONE);
        some.same("free: NONE; BAD", x -> x.free(7, -1), NONE);
        some.same("row: NONE person; BAD", x -> x.row(7, 0, 10), NONE);
        some.same("row: NONE part; BAD; STATE", x -> x.row(0, 4, 10), NONE);
        some.same("row: NONE part; STATE", x -> x.row(0, 4, 1), NONE);
        some.same("row: BAD; STATE", x -> x.row(0, 0, 10), BAD);
        full.same("tool: NONE; BAD; FULL", x -> x.tool(4, 8), NONE);
        full.same("tool: NONE; FULL", x -> x.tool(0, 8), NONE);
        full.same("tool: BAD; FULL", x -> x.tool(4, 0), BAD);
        some.same("twin: NONE; BAD", x -> x.twin(6, 6), NONE);
        full.same("trial: NONE; BAD; FULL", x -> x.trial(10, 10, true), NONE);
        full.same("trial: NONE; FULL", x -> x.trial(0, 10, true), NONE);
        full.same("trial: BAD; FULL", x -> x.trial(0, 0, true), BAD);
        full.same("book: NONE hour; FULL", x -> x.book(24, 0), NONE);
        full.same("book: NONE tool; FULL", x -> x.book(0, 10), NONE);
        full.same("join: NONE; -9", x -> x.join(10), NO_SUM);
        some.same("as: NONE k; -6", x -> x.as(4, 7), NONE);
    }

    private static void noneOfEmpty(Scene s) {
        CHECKS.sentence("REFUSALS: NONE, where there is nobody and no TOOL: it changes nothing.");
        s.same("free", x -> x.free(0, 0), NONE);
        s.same("row", x -> x.row(0, 0, 0), NONE);
        s.same("tool", x -> x.tool(0, 0), NONE);
        s.same("twin", x -> x.twin(0, 1), NONE);
        s.same("broken", x -> x.broken(0, true), NONE);
        s.same("give", x -> x.give(0, 0), NONE);
        s.same("of", x -> x.of(0, 4), NONE);
        s.same("who", x -> x.who(0, 4), NONE);
        s.same("at", x -> x.at(0, 0), NONE);
        s.same("worth", x -> x.worth(0, 0), NO_SUM);
        s.same("away", x -> x.away(0), NO_SUM);
        s.same("join", x -> x.join(0), NO_SUM);
        s.same("trial", x -> x.trial(0, 1, true), NONE);
        s.same("fits", x -> x.fits(0), NONE);
        s.same("book", x -> x.book(0, 0), NONE);
        s.same("act", x -> x.act(0, 0, 1), 0);
        s.same("trace", x -> x.trace(0), NONE);
        s.same("as", x -> x.as(0, 0), NONE);
        s.same("undo", x -> x.undo(), STATE);
    }

    // ---- what is asked

    /** Asked twice: the same answer, and nothing is changed. */
    private static void asked(Scene s, String call, Call asked) {
        TwinTools x = s.made();
        long first = asked.of(x);
        s.same(call, x);
        CHECKS.due(call + " again", asked.of(s.made()), first);
    }

    private static void askedOfSome(Scene s) {
        CHECKS.sentence("What is asked changes nothing: of TOOLS, PEOPLE, TRIALS, the BOOK, ACTS.");
        for (int what = 0; what < 5; what++) {
            int w = what;
            asked(s, "of " + w, x -> x.of(2, w));
            asked(s, "who " + w, x -> x.who(6, w));
        }
        for (int what = 0; what < 7; what++) {
            int w = what;
            asked(s, "count " + w, x -> x.count(w));
            asked(s, "as " + w, x -> x.as(w, w));
            asked(s, "trace " + w, x -> x.trace(w));
        }
        asked(s, "find 0", x -> x.find(0));
        asked(s, "find 1", x -> x.find(1));
        asked(s, "fits", x -> x.fits(0));
        asked(s, "once", x -> x.once(3, 4, 2, 0));
        asked(s, "looked", x -> x.looked());
    }

    private static void askedDays(Scene s) {
        CHECKS.sentence("What is asked changes nothing: of HOURS, DAYS, what would be best.");
        for (int p = 0; p < 7; p++) {
            int one = p;
            asked(s, "at " + p, x -> x.at(one, 4));
            asked(s, "away " + p, x -> x.away(one));
            asked(s, "join " + (p - 1), x -> x.join(one - 1));
        }
        for (int what = 0; what < 5; what++) {
            int w = what;
            asked(s, "hour " + w, x -> x.hour(23, w));
            asked(s, "day " + w, x -> x.day(w));
            asked(s, "change " + w, x -> x.change(w));
            asked(s, "worth " + w, x -> x.worth(w, 11));
        }
        asked(s, "worst", x -> x.worst());
    }

    private static void actChangesTheTraceAlone(Scene s) {
        CHECKS.sentence("ACTS change THE TRACE alone.");
        for (int p = 0; p < 7; p++) {
            for (int act = 0; act < 3; act++) {
                TwinTools x = s.made();
                x.act(p, act, 77);
                x.act(4, 2, 3);
                s.same("act " + p + " " + act, x);
            }
        }
        TwinTools x = s.made();
        x.act(7, 0, 1);
        x.act(4, 2, 3);
        s.same("act of nobody", x);
    }
}
