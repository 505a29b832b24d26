import java.util.Random;

/** Many runs of calls by seeds, each answer held against the oracle's. */
public final class OracleTest {
    private static final int RUNS = 1500;
    private static final Checks CHECKS = new Checks();
    private final Random random;
    private final TwinTools x = new TwinTools();
    private final Oracle o = new Oracle();
    private final int seed;
    private int calls = 0;

    private OracleTest(int seed) {
        this.seed = seed;
        random = new Random(seed);
    }

    public static void main(String[] args) {
        int runs = args.length > 0 ? Integer.parseInt(args[0]) : RUNS;
        for (int seed = 0; seed < runs; seed++) {
            new OracleTest(seed).run();
        }
        for (int i = 0; i < runs * 100; i++) {
            readTwice(new Random(i), i);
        }
        CHECKS.end("OracleTest");
    }

    private void due(String call, long got, long want) {
        calls++;
        CHECKS.due("seed " + seed + ", call " + calls + ": " + call, got, want);
    }

    /** Texts alone, each on a new object. */
    private static void readTwice(Random random, int seed) {
        String text = text(random, 100);
        TwinTools x = new TwinTools();
        int fault = Oracle.fault(text);
        CHECKS.due("text " + seed + " '" + text + "'", Checks.valley(x, text), fault < 0 ? 0 : -10 - fault);
    }

    private void run() {
        setUp();
        while (calls < 505) {
            step();
        }
    }

    private void setUp() {
        if (random.nextInt(4) != 0) {
            feedText();
        }
        int people = random.nextInt(9);
        for (int i = 0; i < people; i++) {
            person(random.nextInt(7));
        }
        int tools = random.nextInt(11);
        for (int i = 0; i < tools; i++) {
            tool();
        }
        for (int i = 0; i < 6; i++) {
            twin();
        }
    }

    private int below(int n) {
        // Now and then an argument that is wrong, near or far.
        int r = random.nextInt(60);
        return r == 0 ? -1 : r == 1 ? n : r == 2 ? random.nextInt() : random.nextInt(n);
    }

    private int aPerson() {
        return below(Math.max(1, o.count(0)));
    }

    private int aTool() {
        return below(Math.max(1, o.count(1)));
    }

    private void person(int kind) {
        int v = below(10);
        int house = below(4);
        due("person", x.person(kind, v, house), o.person(kind, v, house));
        int p = o.count(0) - 1;
        int hours = hours();
        due("free", x.free(p, hours), o.free(p, hours));
    }

    private int hours() {
        int all = (1 << 24) - 1;
        switch (random.nextInt(8)) {
            case 0: return all;
            case 1: return random.nextInt();
            case 2: return random.nextInt() & random.nextInt() & all;
            default: return (random.nextInt() | random.nextInt()) & all;
        }
    }

    private void tool() {
        int sort = below(4);
        int p = aPerson();
        due("tool", x.tool(sort, p), o.tool(sort, p));
    }

    private void twin() {
        int a = aTool();
        int b = aTool();
        due("twin " + a + " " + b, x.twin(a, b), o.twin(a, b));
    }

    private void feedText() {
        String text = text(random, 60);
        for (int i = 0; i < text.length(); i++) {
            due("feed", x.feed(text.charAt(i)), o.feed(text.charAt(i)));
        }
        due("valley '" + text + "'", x.valley(), o.valley());
    }

    static String text(Random random, int most) {
        StringBuilder s = new StringBuilder();
        int clauses = random.nextInt(20) == 0 ? 12 : 1 + random.nextInt(5);
        for (int i = 0; i < clauses; i++) {
            if (i > 0) {
                s.append(';');
            }
            int word = random.nextInt(5);
            if (word == 0) {
                s.append("bell ").append(random.nextInt(random.nextBoolean() ? 9 : 100));
            } else {
                s.append(word == 1 ? "less " : "worth ").append(random.nextInt(random.nextBoolean() ? 10 : 100));
                s.append(' ');
                either(random, s, random.nextInt(4));
            }
        }
        if (random.nextInt(3) == 0 && s.length() > 0) {
            spoil(random, s);
        }
        return s.length() > most && random.nextInt(4) != 0 ? s.substring(0, cut(s, most)) : first(s, 100);
    }

    private static int cut(StringBuilder s, int most) {
        int at = s.lastIndexOf(";", most);
        return at > 0 ? at : most;
    }

    private static String first(StringBuilder s, int most) {
        return s.length() > most ? s.substring(0, most) : s.toString();
    }

    private static void either(Random random, StringBuilder s, int depth) {
        int parts = 1 + random.nextInt(3);
        for (int i = 0; i < parts; i++) {
            if (i > 0) {
                s.append(random.nextBoolean() ? '|' : '&');
            }
            while (random.nextInt(4) == 0) {
                s.append('!');
            }
            if (depth > 0 && random.nextInt(3) == 0) {
                s.append('(');
                either(random, s, depth - 1);
                s.append(')');
            } else {
                int letter = random.nextInt(5);
                int n = random.nextInt(new int[] {24, 4, 9, 7, 2}[letter] + 1);
                s.append("hstkx".charAt(letter)).append("<=>".charAt(random.nextInt(3))).append(n);
            }
        }
    }

    private static void spoil(Random random, StringBuilder s) {
        String signs = "worthlesbxk 0123456789;|&!()<=>\u0000\u007f";
        int at = random.nextInt(s.length());
        char sign = signs.charAt(random.nextInt(signs.length()));
        switch (random.nextInt(4)) {
            case 0: s.setCharAt(at, sign); break;
            case 1: s.insert(at, sign); break;
            case 2: s.deleteCharAt(at); break;
            default: s.setLength(at); break;
        }
    }

    private void step() {
        int a = aTool();
        int b = aTool();
        int p = aPerson();
        int h = below(24);
        int w = below(5);
        boolean yes = random.nextBoolean();
        switch (random.nextInt(34)) {
            case 0: int sign = below(128); due("feed " + sign, x.feed(sign), o.feed(sign)); break;
            case 1: if (random.nextInt(6) == 0) { feedText(); } break;
            case 2: person(below(7)); break;
            case 3: int hs = hours(); due("free", x.free(p, hs), o.free(p, hs)); break;
            case 4: int t = below(11) - 1; int part = below(4); due("row", x.row(p, part, t), o.row(p, part, t)); break;
            case 5: tool(); break;
            case 6: twin(); break;
            case 7: due("broken", x.broken(a, yes && b < 2), o.broken(a, yes && b < 2)); break;
            case 8: due("give", x.give(a, p), o.give(a, p)); break;
            case 9: due("of " + a + " " + w, x.of(a, w), o.of(a, w)); break;
            case 10: due("who " + p + " " + w, x.who(p, w), o.who(p, w)); break;
            case 11: due("at " + p + " " + h, x.at(p, h), o.at(p, h)); break;
            case 12: due("worth " + a + " " + h, x.worth(a, h), o.worth(a, h)); break;
            case 13: case 14: due("hour " + h + " " + w, x.hour(h, w), o.hour(h, w)); break;
            case 15: due("day " + w, x.day(w), o.day(w)); break;
            case 16: if (random.nextInt(20) == 0) { due("change " + w, x.change(w), o.change(w)); } break;
            case 17: due("away " + p, x.away(p), o.away(p)); break;
            case 18: if (random.nextInt(8) == 0) { due("worst", x.worst(), o.worst()); } break;
            case 19: if (random.nextInt(8) == 0) { due("join " + (a - 1), x.join(a - 1), o.join(a - 1)); } break;
            case 20: case 21: trial(a, b); break;
            case 22: if (random.nextInt(4) == 0) { due("clear", x.clear(), o.clear()); } break;
            case 23: int f = below(2); due("find " + f, x.find(f), o.find(f)); break;
            case 24: due("fits " + a, x.fits(a), o.fits(a)); break;
            case 25: once(); break;
            case 26: book(h, a); break;
            case 27: due("looked", x.looked(), o.looked()); break;
            case 28: case 29: acts(p); break;
            case 30: int k = below(7); due("as " + p + " " + k, x.as(p, k), o.as(p, k)); break;
            case 31: if (random.nextInt(5) == 0) { due("image", x.image(), o.image()); } break;
            case 32: if (random.nextInt(5) == 0) { due("undo", x.undo(), o.undo()); } break;
            default: int c = below(7); due("count " + c, x.count(c), o.count(c)); break;
        }
    }

    private void trial(int a, int b) {
        // Mostly what a broken one would do, so that somebody stays under suspicion.
        int twin = o.of(a, 2);
        int other = twin >= 0 && random.nextBoolean() ? twin : b;
        boolean went = other == twin && random.nextInt(4) != 0;
        due("trial", x.trial(a, other, went), o.trial(a, other, went));
    }

    private void book(int h, int a) {
        if (random.nextInt(3) == 0 || o.hour(h, 0) <= 0) {
            due("book", x.book(h, a), o.book(h, a));
        } else {
            int going = Integer.numberOfTrailingZeros(o.hour(h, 0));
            due("book", x.book(h, going), o.book(h, going));
        }
    }

    private void once() {
        int p = below(11);
        int q = below(11);
        int n = 1 + below(4);
        int part = below(2);
        due("once " + p + " " + q + " " + n, x.once(p, q, n, part), Oracle.once(p, q, n, part));
    }

    private void acts(int p) {
        int act = below(3);
        int v = random.nextInt();
        due("act " + p + " " + act, x.act(p, act, v), o.act(p, act, v));
        for (int i = -1; i < 8 && calls < 505; i++) {
            due("trace " + i, x.trace(i), o.trace(i));
        }
    }
}
