import java.math.BigInteger;
import java.util.ArrayList;
import java.util.List;

/** The document once more, in its slowest and plainest form, to be held against the class. */
final class Oracle {
    static final int[] ABOVE = {-1, 0, 0, 0, 1, 2, 3};

    static final class Person {
        int kind, v, house, free;
        int[] row = {-1, -1, -1, -1};

        Person copy() {
            Person p = new Person();
            p.kind = kind;
            p.v = v;
            p.house = house;
            p.free = free;
            p.row = row.clone();
            return p;
        }
    }

    static final class Tool {
        int sort, holder, twin = -5;
        boolean broken;

        Tool copy() {
            Tool t = new Tool();
            t.sort = sort;
            t.holder = holder;
            t.twin = twin;
            t.broken = broken;
            return t;
        }
    }

    static final class All {
        String tape = "";
        List<String> valleys = new ArrayList<>();
        List<Person> people = new ArrayList<>();
        List<Tool> tools = new ArrayList<>();
        List<int[]> trials = new ArrayList<>();
        List<int[]> book = new ArrayList<>();

        All copy() {
            All a = new All();
            a.tape = tape;
            a.valleys.addAll(valleys);
            for (Person p : people) {
                a.people.add(p.copy());
            }
            for (Tool t : tools) {
                a.tools.add(t.copy());
            }
            a.trials.addAll(trials);
            a.book.addAll(book);
            return a;
        }
    }

    private All now = new All();
    private All image = null;
    private List<Integer> trace = new ArrayList<>();

    // ---- reading

    /** -1, or the first place at which the text cannot go on: sign by sign, with a pile of what is open. */
    static int fault(String text) {
        String pile = "";
        String word = "";
        int mode = 0;
        char of = ' ';
        int clauses = 1;
        for (int i = 0; i < text.length(); i++) {
            char c = text.charAt(i);
            boolean digit = c >= '0' && c <= '9';
            if (mode == 3) {
                mode = 4;
                if (digit) {
                    continue;
                }
            }
            switch (mode) {
                case 0:
                    if (c != 'w' && c != 'l' && c != 'b') {
                        return i;
                    }
                    word = c == 'w' ? "orth " : c == 'l' ? "ess " : "ell ";
                    of = c == 'b' ? 'b' : 'w';
                    mode = 1;
                    break;
                case 1:
                    if (c != word.charAt(0)) {
                        return i;
                    }
                    word = word.substring(1);
                    if (word.isEmpty()) {
                        mode = 2;
                    }
                    break;
                case 2:
                    if (!digit) {
                        return i;
                    }
                    mode = c == '0' ? 4 : 3;
                    break;
                case 4:
                    if (of == 'w') {
                        if (c != ' ') {
                            return i;
                        }
                        mode = 5;
                        break;
                    }
                    if (of == 't') {
                        while (pile.endsWith("!")) {
                            pile = pile.substring(0, pile.length() - 1);
                        }
                        if (c == '&' || c == '|') {
                            mode = 5;
                            break;
                        }
                        if (c == ')' && pile.endsWith("(")) {
                            pile = pile.substring(0, pile.length() - 1);
                            break;
                        }
                    }
                    if (c != ';' || !pile.isEmpty() || clauses == 10) {
                        return i;
                    }
                    clauses++;
                    mode = 0;
                    break;
                case 5:
                    if (c == '!' || c == '(') {
                        if (pile.length() == 5) {
                            return i;
                        }
                        pile += c;
                    } else if ("hstkx".indexOf(c) >= 0) {
                        mode = 6;
                    } else {
                        return i;
                    }
                    break;
                default:
                    if ("<=>".indexOf(c) < 0) {
                        return i;
                    }
                    of = 't';
                    mode = 2;
                    break;
            }
        }
        boolean ended = (mode == 3 || mode == 4) && of != 'w' && pile.indexOf('(') < 0;
        return ended ? -1 : text.length();
    }

    /** The truth of an E by splitting it at the outermost | and &. */
    static boolean truth(String e, int[] facts) {
        for (char joint : new char[] {'|', '&'}) {
            int depth = 0;
            for (int i = 0; i < e.length(); i++) {
                char c = e.charAt(i);
                depth += c == '(' ? 1 : c == ')' ? -1 : 0;
                if (c == joint && depth == 0) {
                    boolean a = truth(e.substring(0, i), facts);
                    boolean b = truth(e.substring(i + 1), facts);
                    return joint == '|' ? a || b : a && b;
                }
            }
        }
        if (e.charAt(0) == '!') {
            return !truth(e.substring(1), facts);
        }
        if (e.charAt(0) == '(') {
            return truth(e.substring(1, e.length() - 1), facts);
        }
        int fact = facts["hstkx".indexOf(e.charAt(0))];
        int than = Integer.parseInt(e.substring(2));
        return e.charAt(1) == '<' ? fact < than : e.charAt(1) == '=' ? fact == than : fact > than;
    }

    static String[] clauses(All a) {
        return a.valleys.isEmpty() ? new String[0] : a.valleys.get(a.valleys.size() - 1).split(";");
    }

    static int bell(All a) {
        int bell = 6;
        for (String c : clauses(a)) {
            if (c.startsWith("bell ")) {
                bell = Integer.parseInt(c.substring(5));
            }
        }
        return bell == 0 ? 1 : bell;
    }

    static int worthOf(All a, int tool, int hour) {
        int lesser = Math.min(tool, a.tools.get(tool).twin);
        Tool one = a.tools.get(lesser);
        Tool other = a.tools.get(one.twin);
        Person holder = a.people.get(one.holder);
        int x = holder.house == a.people.get(other.holder).house ? 1 : 0;
        int[] facts = {hour, one.sort, lesser, holder.kind, x};
        int sum = 0;
        for (String c : clauses(a)) {
            String[] parts = c.split(" ");
            if (!parts[0].equals("bell") && truth(parts[2], facts)) {
                sum += (parts[0].equals("worth") ? 1 : -1) * Integer.parseInt(parts[1]);
            }
        }
        return sum;
    }

    // ---- hours

    static boolean fit(All a, int t) {
        return !a.tools.get(t).broken && a.tools.get(t).twin >= 0;
    }

    static boolean free(All a, int p, int hour) {
        return (a.people.get(p).free & 1 << hour) != 0;
    }

    static int works(All a, int p, int hour) {
        Person one = a.people.get(p);
        boolean is = free(a, p, hour);
        switch (one.kind) {
            case 0: return is ? leastFit(a, p) : -5;
            case 1: return is ? byBell(a, p, hour) : -5;
            case 2: return is ? atHome(a, p) : -5;
            case 3: return is ? byGuess(a, p, hour) : -5;
            case 4: {
                int t = is ? byBell(a, p, hour) : -5;
                boolean v = one.v < a.tools.size() && a.tools.get(one.v).holder == p && fit(a, one.v);
                return t >= 0 ? t : v ? one.v : -5;
            }
            case 5: {
                int ahead = hour - one.v;
                return free(a, p, ahead < 0 ? ahead + 24 : ahead) ? atHome(a, p) : -5;
            }
            default: {
                int told = one.row[hour % 4];
                boolean holds = told >= 0 && told < a.tools.size() && a.tools.get(told).holder == p;
                return !is ? -5 : holds ? told : byGuess(a, p, hour);
            }
        }
    }

    static int leastFit(All a, int p) {
        for (int t = 0; t < a.tools.size(); t++) {
            if (a.tools.get(t).holder == p && fit(a, t)) {
                return t;
            }
        }
        return -5;
    }

    static int atHome(All a, int p) {
        for (int t = 0; t < a.tools.size(); t++) {
            if (a.tools.get(t).holder == p && fit(a, t)) {
                int other = a.tools.get(a.tools.get(t).twin).holder;
                if (a.people.get(other).house == a.people.get(p).house) {
                    return t;
                }
            }
        }
        return leastFit(a, p);
    }

    static int byBell(All a, int p, int hour) {
        if (hour % bell(a) != 0) {
            return -5;
        }
        int best = -5;
        for (int t = a.tools.size() - 1; t >= 0; t--) {
            if (a.tools.get(t).holder == p && fit(a, t)
                    && (best == -5 || worthOf(a, t, hour) >= worthOf(a, best, hour))) {
                best = t;
            }
        }
        return best;
    }

    static int byGuess(All a, int p, int hour) {
        int best = -5;
        for (int t = a.tools.size() - 1; t >= 0; t--) {
            if (a.tools.get(t).holder == p && fit(a, t)) {
                int other = a.tools.get(a.tools.get(t).twin).holder;
                if (other != p && free(a, other, hour)
                        && (best == -5 || worthOf(a, t, hour) >= worthOf(a, best, hour))) {
                    best = t;
                }
            }
        }
        return best;
    }

    static boolean worked(All a, int t, int hour) {
        return works(a, a.tools.get(t).holder, hour) == t;
    }

    static boolean toolGoes(All a, int t, int hour) {
        int other = a.tools.get(t).twin;
        return other >= 0 && worked(a, t, hour) && worked(a, other, hour)
                && !a.tools.get(t).broken && !a.tools.get(other).broken;
    }

    /** {MOST, its set, MANY} over all sets of lesser tools. */
    static int[] most(All a, int hour) {
        int[] best = {0, 0, 0};
        int n = a.tools.size();
        next:
        for (int set = 0; set < 1 << n; set++) {
            int busy = 0;
            int sum = 0;
            for (int t = 0; t < n; t++) {
                if ((set & 1 << t) == 0) {
                    continue;
                }
                Tool one = a.tools.get(t);
                if (one.twin <= t || one.broken || a.tools.get(one.twin).broken) {
                    continue next;
                }
                for (int p : new int[] {one.holder, a.tools.get(one.twin).holder}) {
                    if (!free(a, p, hour) || (busy & 1 << p) != 0) {
                        continue next;
                    }
                    busy |= 1 << p;
                }
                sum += worthOf(a, t, hour);
            }
            if (sum > best[0]) {
                best[0] = sum;
                best[1] = set;
            }
            best[2] = Math.max(best[2], Integer.bitCount(set));
        }
        return best;
    }

    static int bestDay(All a) {
        int sum = 0;
        for (int h = 0; h < 24; h++) {
            sum += most(a, h)[0];
        }
        return sum;
    }

    static int[] bestChange(All a) {
        int before = bestDay(a);
        int[] best = {-5, -5, 0};
        for (int i = 0; i < a.tools.size(); i++) {
            for (int j = i + 1; j < a.tools.size(); j++) {
                All b = a.copy();
                b.tools.get(i).holder = a.tools.get(j).holder;
                b.tools.get(j).holder = a.tools.get(i).holder;
                if (b.tools.get(i).holder != b.tools.get(j).holder && bestDay(b) - before > best[2]) {
                    best = new int[] {i, j, bestDay(b) - before};
                }
            }
        }
        return best;
    }

    static int lost(All a, int p) {
        All b = a.copy();
        b.people.get(p).free = 0;
        return bestDay(a) - bestDay(b);
    }

    /** {BEST DAY, the row of twins}: all rows in the order of numbers, only those that are twins kept. */
    static int[] joined(All a) {
        int n = a.tools.size();
        int[] best = null;
        long rows = 1;
        for (int i = 0; i < n; i++) {
            rows *= n;
        }
        next:
        for (long r = 0; r < rows; r++) {
            int[] row = new int[n];
            long rest = r;
            for (int i = n - 1; i >= 0; i--) {
                row[i] = (int) (rest % n);
                rest /= n;
            }
            for (int i = 0; i < n; i++) {
                if (row[i] == i || row[row[i]] != i) {
                    continue next;
                }
            }
            All b = a.copy();
            for (int i = 0; i < n; i++) {
                b.tools.get(i).twin = row[i];
            }
            int day = bestDay(b);
            if (best == null || day > best[0]) {
                best = new int[n + 1];
                best[0] = day;
                System.arraycopy(row, 0, best, 1, n);
            }
        }
        return best;
    }

    // ---- acts

    static final int[][] BODIES = {
        {1, 2, 3}, {11, 0, 0}, {0, 21, 0}, {0, 0, 31}, {0, 0, 41}, {51, 0, 0}, {0, 61, 0}};

    int run(int i, int from, int act, int x) {
        int kind = from;
        while (BODIES[kind][act] == 0) {
            kind = ABOVE[kind];
        }
        int body = BODIES[kind][act];
        int v = now.people.get(i).v;
        int own = now.people.get(i).kind;
        trace.add(body);
        switch (body) {
            case 1: return x + i;
            case 2: return run(i, own, 0, x) - v;
            case 3: return run(i, own, 1, x) * 2;
            case 11: return run(i, ABOVE[kind], 0, x * 3);
            case 21: return -run(i, ABOVE[kind], 1, x);
            case 31: return run(i, ABOVE[kind], 2, x) ^ 7;
            case 41: {
                int first = run(i, ABOVE[kind], 2, x - 1);
                return first + run(i, own, 0, 2);
            }
            case 51: return run(i, ABOVE[kind], 0, x) ^ i;
            default: return run(i, ABOVE[kind], 1, x) + v;
        }
    }

    // ---- the calls

    private boolean noPerson(int p) {
        return p < 0 || p >= now.people.size();
    }

    private boolean noTool(int t) {
        return t < 0 || t >= now.tools.size();
    }

    private static boolean noHour(int h) {
        return h < 0 || h > 23;
    }

    int feed(int sign) {
        if (sign < 0 || sign > 127) {
            return -2;
        }
        if (now.tape.length() == 100) {
            return -4;
        }
        now.tape += (char) sign;
        return now.tape.length();
    }

    int valley() {
        if (now.valleys.size() == 5) {
            return -4;
        }
        String text = now.tape;
        now.tape = "";
        int fault = fault(text);
        if (fault >= 0) {
            return -10 - fault;
        }
        now.valleys.add(text);
        return now.valleys.size() - 1;
    }

    int person(int kind, int v, int house) {
        if (kind < 0 || kind > 6) {
            return -1;
        }
        if (v < 0 || v > 9 || house < 0 || house > 3) {
            return -2;
        }
        if (now.people.size() == 8) {
            return -4;
        }
        Person p = new Person();
        p.kind = kind;
        p.v = v;
        p.house = house;
        now.people.add(p);
        return now.people.size() - 1;
    }

    int free(int person, int hours) {
        if (noPerson(person)) {
            return -1;
        }
        if (hours < 0 || hours >= 1 << 24) {
            return -2;
        }
        int before = Integer.bitCount(now.people.get(person).free);
        now.people.get(person).free = hours;
        return before;
    }

    int row(int person, int part, int tool) {
        if (noPerson(person) || part < 0 || part > 3) {
            return -1;
        }
        if (tool < -1 || tool > 9) {
            return -2;
        }
        if (now.people.get(person).kind != 6) {
            return -3;
        }
        int before = now.people.get(person).row[part];
        now.people.get(person).row[part] = tool;
        return before == -1 ? -5 : before;
    }

    int tool(int sort, int person) {
        if (noPerson(person)) {
            return -1;
        }
        if (sort < 0 || sort > 3) {
            return -2;
        }
        if (now.tools.size() == 10) {
            return -4;
        }
        Tool t = new Tool();
        t.sort = sort;
        t.holder = person;
        now.tools.add(t);
        return now.tools.size() - 1;
    }

    int twin(int a, int b) {
        if (noTool(a) || noTool(b)) {
            return -1;
        }
        if (a == b) {
            return -2;
        }
        if (now.tools.get(a).twin == b) {
            return 1;
        }
        for (Tool t : now.tools) {
            if (t.twin == a || t.twin == b) {
                t.twin = -5;
            }
        }
        now.tools.get(a).twin = b;
        now.tools.get(b).twin = a;
        return 0;
    }

    int broken(int tool, boolean is) {
        if (noTool(tool)) {
            return -1;
        }
        int before = now.tools.get(tool).broken ? 1 : 0;
        now.tools.get(tool).broken = is;
        return before;
    }

    int give(int tool, int person) {
        if (noTool(tool) || noPerson(person)) {
            return -1;
        }
        int before = now.tools.get(tool).holder;
        now.tools.get(tool).holder = person;
        return before;
    }

    int of(int tool, int what) {
        if (noTool(tool) || what < 0 || what > 4) {
            return -1;
        }
        Tool t = now.tools.get(tool);
        if (what < 4) {
            return new int[] {t.sort, t.holder, t.twin, t.broken ? 1 : 0}[what];
        }
        int bits = 0;
        for (int h = 0; h < 24; h++) {
            bits |= toolGoes(now, tool, h) ? 1 << h : 0;
        }
        return bits;
    }

    int who(int person, int what) {
        if (noPerson(person) || what < 0 || what > 4) {
            return -1;
        }
        Person p = now.people.get(person);
        int holds = 0;
        for (Tool t : now.tools) {
            holds += t.holder == person ? 1 : 0;
        }
        return new int[] {p.kind, p.v, p.house, p.free, holds}[what];
    }

    int at(int person, int hour) {
        return noPerson(person) || noHour(hour) ? -1 : works(now, person, hour);
    }

    int worth(int tool, int hour) {
        return noTool(tool) || noHour(hour) || now.tools.get(tool).twin < 0 ? -10001 : worthOf(now, tool, hour);
    }

    int hour(int hour, int what) {
        if (noHour(hour) || what < 0 || what > 4) {
            return -10001;
        }
        if (what >= 2) {
            return most(now, hour)[what - 2];
        }
        int bits = 0;
        for (int t = 0; t < now.tools.size(); t++) {
            boolean goes = toolGoes(now, t, hour);
            boolean lesser = now.tools.get(t).twin > t;
            bits |= (what == 0 ? goes && lesser : worked(now, t, hour) && !goes) ? 1 << t : 0;
        }
        return bits;
    }

    int day(int what) {
        if (what < 0 || what > 3) {
            return -10001;
        }
        if (what == 2) {
            return bestDay(now);
        }
        if (what == 3) {
            return bell(now);
        }
        int sum = 0;
        for (int h = 0; h < 24; h++) {
            for (int t = 0; t < now.tools.size(); t++) {
                boolean goes = toolGoes(now, t, h);
                if (what == 0) {
                    sum += goes && now.tools.get(t).twin > t ? worthOf(now, t, h) : 0;
                } else {
                    sum += worked(now, t, h) && !goes ? 1 : 0;
                }
            }
        }
        return sum;
    }

    int change(int what) {
        return what < 0 || what > 2 ? -1 : bestChange(now)[what];
    }

    int away(int person) {
        return noPerson(person) ? -10001 : lost(now, person);
    }

    int worst() {
        int worst = -5;
        for (int p = now.people.size() - 1; p >= 0; p--) {
            if (worst < 0 || lost(now, p) >= lost(now, worst)) {
                worst = p;
            }
        }
        return worst;
    }

    int join(int k) {
        if (k != -1 && noTool(k)) {
            return -10001;
        }
        if (now.tools.size() > 6 || now.tools.size() % 2 == 1) {
            return -9;
        }
        return joined(now)[k + 1];
    }

    int trial(int a, int b, boolean went) {
        if (noTool(a) || noTool(b)) {
            return -1;
        }
        if (a == b) {
            return -2;
        }
        if (now.trials.size() == 12) {
            return -4;
        }
        now.trials.add(new int[] {a, b, went ? 1 : 0});
        return now.trials.size();
    }

    int clear() {
        int before = now.trials.size();
        now.trials.clear();
        return before;
    }

    private boolean mayBe(int tool) {
        for (int[] t : now.trials) {
            boolean twins = now.tools.get(t[0]).twin == t[1];
            boolean isOne = t[0] == tool || t[1] == tool;
            if (twins && !isOne && t[2] == 0 || twins && isOne && t[2] == 1 || !twins && t[2] == 1) {
                return false;
            }
        }
        return true;
    }

    int find(int what) {
        if (what < 0 || what > 1) {
            return -1;
        }
        int bits = 0;
        for (int t = 0; t < now.tools.size(); t++) {
            bits |= mayBe(t) ? 1 << t : 0;
        }
        if (what == 0) {
            return bits;
        }
        int best = -5;
        int least = 99;
        for (int t = 0; t < now.tools.size(); t++) {
            int other = now.tools.get(t).twin;
            if (other > t) {
                int in = (bits >> t & 1) + (bits >> other & 1);
                int greater = Math.max(in, Integer.bitCount(bits) - in);
                if (greater < least) {
                    least = greater;
                    best = t;
                }
            }
        }
        return best;
    }

    int fits(int tool) {
        if (noTool(tool)) {
            return -1;
        }
        int bits = 0;
        for (int o = 0; o < now.tools.size(); o++) {
            boolean can = o != tool;
            for (int[] t : now.trials) {
                if (t[0] == tool || t[1] == tool) {
                    int other = t[0] + t[1] - tool;
                    can &= t[2] == 1 ? o == other : o != other;
                }
            }
            bits |= can ? 1 << o : 0;
        }
        return bits;
    }

    static long once(int p, int q, int n, int part) {
        if (p < 0 || p > 10 || q < 0 || q > 10 || n < 1 || n > 4 || part < 0 || part > 1) {
            return Long.MIN_VALUE;
        }
        BigInteger below = BigInteger.valueOf(100).pow(n);
        BigInteger above = below.subtract(BigInteger.valueOf(100 - p * q).pow(n));
        BigInteger common = above.gcd(below);
        return (part == 0 ? above : below).divide(common).longValueExact();
    }

    int book(int hour, int tool) {
        if (noHour(hour) || noTool(tool)) {
            return -1;
        }
        if (now.book.size() == 12) {
            return -4;
        }
        now.book.add(new int[] {hour, tool});
        return now.book.size();
    }

    int looked() {
        for (int i = 0; i < now.book.size(); i++) {
            if (!toolGoes(now, now.book.get(i)[1], now.book.get(i)[0])) {
                return i;
            }
        }
        return -5;
    }

    int act(int person, int act, int x) {
        trace = new ArrayList<>();
        if (noPerson(person) || act < 0 || act > 2) {
            return 0;
        }
        return run(person, now.people.get(person).kind, act, x);
    }

    int trace(int i) {
        return i < 0 || i >= Math.min(20, trace.size()) ? -1 : trace.get(i);
    }

    int as(int person, int k) {
        if (noPerson(person) || k < 0 || k > 6) {
            return -1;
        }
        for (int kind = now.people.get(person).kind; kind >= 0; kind = ABOVE[kind]) {
            if (kind == k) {
                return now.people.get(person).v;
            }
        }
        return -6;
    }

    int image() {
        image = now.copy();
        return now.tools.size();
    }

    int undo() {
        if (image == null) {
            return -3;
        }
        now = image.copy();
        return now.tools.size();
    }

    int count(int what) {
        int[] counts = {now.people.size(), now.tools.size(), now.valleys.size(), now.trials.size(),
            now.book.size(), now.tape.length(), trace.size()};
        return what < 0 || what > 6 ? -1 : counts[what];
    }
}
