import java.util.Arrays;

/** Tools made in pairs, each of which works only while its twin is worked. */
public final class TwinTools {
    public static final int NONE = -1, BAD = -2, STATE = -3, FULL = -4;
    public static final long NO = Long.MIN_VALUE;

    private static final int NOTHING = -5, OTHER_KIND = -6, UNJOINED = -9, FAULTY = -10, NO_SUM = -10001;
    private static final int MAX_SIGNS = 100, MAX_VALLEYS = 5, MAX_PEOPLE = 8, MAX_TOOLS = 10, MAX_ROWS = 12;
    private static final int MAX_CLAUSES = 10, MAX_OPEN = 5, MAX_KEPT = 20, MAX_JOINED = 6;
    private static final int MAX_PAIRS = MAX_TOOLS / 2, SETS = 1 << MAX_PAIRS;
    private static final int HOURS = 24, ALL_HOURS = (1 << HOURS) - 1, PARTS = 4, SORTS = 4, HOUSES = 4;
    private static final int HAND = 0, BELL = 1, HOME = 2, GUESSING = 3, LIFTING = 4, LATE = 5, TOLD = 6;

    private final World now = new World();
    private final World kept = new World();
    private boolean hasKept = false;
    private final Plan plan = new Plan();
    private final Trace ran = new Trace();
    private Valley spare = new Valley();

    public TwinTools() {
    }

    // ---- valleys, people, tools

    public int feed(int sign) {
        if (sign < 0 || sign > 127) {
            return BAD;
        }
        if (now.signs >= MAX_SIGNS) {
            return FULL;
        }
        now.tape[now.signs] = (byte) sign;
        now.signs++;
        return now.signs;
    }

    public int valley() {
        if (now.valleyCount >= MAX_VALLEYS) {
            return FULL;
        }
        int fault = spare.read(now.tape, now.signs);
        now.signs = 0;
        if (fault != Valley.SOUND) {
            return FAULTY - fault;
        }
        now.valleys[now.valleyCount] = spare;
        now.valleyCount++;
        // The worlds keep the one that was read, so the next text is read by another.
        spare = new Valley();
        return now.valleyCount - 1;
    }

    public int person(int kind, int v, int house) {
        if (kind < HAND || kind > TOLD) {
            return NONE;
        }
        if (v < 0 || v > 9 || house < 0 || house >= HOUSES) {
            return BAD;
        }
        if (now.peopleCount >= MAX_PEOPLE) {
            return FULL;
        }
        now.addPerson(newcomer(kind, now.peopleCount, v, house));
        return now.peopleCount - 1;
    }

    public int free(int person, int hours) {
        if (!now.hasPerson(person)) {
            return NONE;
        }
        if (hours < 0 || hours > ALL_HOURS) {
            return BAD;
        }
        int before = Integer.bitCount(now.free[person]);
        now.free[person] = hours;
        return before;
    }

    public int row(int person, int part, int tool) {
        if (!now.hasPerson(person) || part < 0 || part >= PARTS) {
            return NONE;
        }
        if (tool < -1 || tool >= MAX_TOOLS) {
            return BAD;
        }
        if (!(now.people[person] instanceof Told)) {
            return STATE;
        }
        int place = person * PARTS + part;
        int before = now.rows[place];
        now.rows[place] = tool == -1 ? NOTHING : tool;
        return before;
    }

    public int tool(int sort, int person) {
        if (!now.hasPerson(person)) {
            return NONE;
        }
        if (sort < 0 || sort >= SORTS) {
            return BAD;
        }
        if (now.toolCount >= MAX_TOOLS) {
            return FULL;
        }
        now.addTool(sort, person);
        return now.toolCount - 1;
    }

    public int twin(int a, int b) {
        if (!now.hasTool(a) || !now.hasTool(b)) {
            return NONE;
        }
        if (a == b) {
            return BAD;
        }
        boolean were = now.twin[a] == b;
        now.part(a);
        now.part(b);
        now.pairUp(a, b);
        return were ? 1 : 0;
    }

    public int broken(int tool, boolean is) {
        if (!now.hasTool(tool)) {
            return NONE;
        }
        int before = now.broken >> tool & 1;
        int others = now.broken & ~(1 << tool);
        now.broken = is ? others | 1 << tool : others;
        return before;
    }

    public int give(int tool, int person) {
        if (!now.hasTool(tool) || !now.hasPerson(person)) {
            return NONE;
        }
        int before = now.holder[tool];
        now.holder[tool] = person;
        return before;
    }

    public int of(int tool, int what) {
        if (!now.hasTool(tool)) {
            return NONE;
        }
        switch (what) {
            case 0: return now.sort[tool];
            case 1: return now.holder[tool];
            case 2: return now.twin[tool];
            case 3: return now.broken >> tool & 1;
            case 4:
                plan.look(now);
                return plan.goneHours(tool);
            default: return NONE;
        }
    }

    public int who(int person, int what) {
        Hand one = now.personOrNull(person);
        if (one == null) {
            return NONE;
        }
        switch (what) {
            case 0: return one.kind;
            case 1: return one.v;
            case 2: return one.house;
            case 3: return now.free[person];
            case 4: return now.heldBy(person);
            default: return NONE;
        }
    }

    // ---- hours, days

    public int at(int person, int hour) {
        Hand one = now.personOrNull(person);
        if (one == null || !isHour(hour)) {
            return NONE;
        }
        plan.look(now);
        return one.worksAt(plan, hour);
    }

    public int worth(int tool, int hour) {
        if (!now.hasTool(tool) || !isHour(hour) || now.twin[tool] < 0) {
            return NO_SUM;
        }
        plan.look(now);
        return plan.worth[tool][hour];
    }

    public int hour(int hour, int what) {
        if (!isHour(hour)) {
            return NO_SUM;
        }
        plan.look(now);
        switch (what) {
            case 0: return plan.goingPairs(plan.workedTools(hour));
            case 1: return plan.waitingTools(plan.workedTools(hour));
            case 2: return plan.mostIn(hour);
            case 3: return plan.mostSetIn(hour);
            case 4: return plan.manyIn(hour);
            default: return NO_SUM;
        }
    }

    public int day(int what) {
        plan.look(now);
        switch (what) {
            case 0: return plan.allWorth();
            case 1: return plan.waiting();
            case 2: return plan.bestDay();
            case 3: return plan.bell;
            default: return NO_SUM;
        }
    }

    public int change(int what) {
        if (what < 0 || what > 2) {
            return NONE;
        }
        plan.seekChange(now);
        switch (what) {
            case 0: return plan.changeOne;
            case 1: return plan.changeOther;
            default: return plan.changeMore;
        }
    }

    public int away(int person) {
        if (!now.hasPerson(person)) {
            return NO_SUM;
        }
        return plan.lostWithout(now, person);
    }

    public int worst() {
        int worst = NOTHING;
        int most = -1;
        for (int p = 0; p < now.peopleCount; p++) {
            int lost = plan.lostWithout(now, p);
            if (lost > most) {
                most = lost;
                worst = p;
            }
        }
        return worst;
    }

    public int join(int k) {
        if (k != -1 && !now.hasTool(k)) {
            return NO_SUM;
        }
        if (now.toolCount > MAX_JOINED || now.toolCount % 2 != 0) {
            return UNJOINED;
        }
        plan.seekJoin(now);
        return k == -1 || k >= MAX_JOINED ? plan.joinBest : plan.joinRow[k];
    }

    // ---- trials, chances

    public int trial(int a, int b, boolean went) {
        if (!now.hasTool(a) || !now.hasTool(b)) {
            return NONE;
        }
        if (a == b) {
            return BAD;
        }
        if (now.trialCount >= MAX_ROWS) {
            return FULL;
        }
        now.addTrial(a, b, went);
        return now.trialCount;
    }

    public int clear() {
        int before = now.trialCount;
        now.trialCount = 0;
        return before;
    }

    public int find(int what) {
        switch (what) {
            case 0: return now.suspects();
            case 1: return now.bestTry();
            default: return NONE;
        }
    }

    public int fits(int tool) {
        return now.hasTool(tool) ? now.likelyTwins(tool) : NONE;
    }

    public long once(int p, int q, int n, int part) {
        if (p < 0 || p > 10 || q < 0 || q > 10 || n < 1 || n > 4 || part < 0 || part > 1) {
            return NO;
        }
        long whole = 1;
        long never = 1;
        for (int i = 0; i < n; i++) {
            whole *= 100;
            never *= 100 - p * q;
        }
        long above = whole - never;
        long common = commonDivisor(whole, above);
        if (common < 1) {
            return NO;
        }
        return part == 0 ? above / common : whole / common;
    }

    // ---- books

    public int book(int hour, int tool) {
        if (!isHour(hour) || !now.hasTool(tool)) {
            return NONE;
        }
        if (now.bookCount >= MAX_ROWS) {
            return FULL;
        }
        now.bookHour[now.bookCount] = hour;
        now.bookTool[now.bookCount] = tool;
        now.bookCount++;
        return now.bookCount;
    }

    public int looked() {
        plan.look(now);
        for (int i = 0; i < now.bookCount; i++) {
            if (!plan.goes(now.bookTool[i], plan.workedTools(now.bookHour[i]))) {
                return i;
            }
        }
        return NOTHING;
    }

    // ---- acts, the image

    public int act(int person, int act, int x) {
        ran.restart();
        Hand one = now.personOrNull(person);
        if (one == null) {
            return 0;
        }
        switch (act) {
            case 0: return one.lifts(x, ran);
            case 1: return one.waits(x, ran);
            case 2: return one.tells(x, ran);
            default: return 0;
        }
    }

    public int trace(int i) {
        return i >= 0 && i < MAX_KEPT && i < ran.size ? ran.bodies[i] : NONE;
    }

    public int as(int person, int k) {
        Hand one = now.personOrNull(person);
        if (one == null || k < HAND || k > TOLD) {
            return NONE;
        }
        return isOfKind(one, k) ? one.v : OTHER_KIND;
    }

    public int image() {
        kept.copyFrom(now);
        hasKept = true;
        return now.toolCount;
    }

    public int undo() {
        if (!hasKept) {
            return STATE;
        }
        now.copyFrom(kept);
        return now.toolCount;
    }

    public int count(int what) {
        switch (what) {
            case 0: return now.peopleCount;
            case 1: return now.toolCount;
            case 2: return now.valleyCount;
            case 3: return now.trialCount;
            case 4: return now.bookCount;
            case 5: return now.signs;
            case 6: return ran.size;
            default: return NONE;
        }
    }

    private static boolean isHour(int hour) {
        return hour >= 0 && hour < HOURS;
    }

    private static Hand newcomer(int kind, int number, int v, int house) {
        switch (kind) {
            case BELL: return new Bell(kind, number, v, house);
            case HOME: return new Home(kind, number, v, house);
            case GUESSING: return new Guessing(kind, number, v, house);
            case LIFTING: return new Lifting(kind, number, v, house);
            case LATE: return new Late(kind, number, v, house);
            case TOLD: return new Told(kind, number, v, house);
            default: return new Hand(kind, number, v, house);
        }
    }

    private static boolean isOfKind(Hand one, int kind) {
        switch (kind) {
            case BELL: return one instanceof Bell;
            case HOME: return one instanceof Home;
            case GUESSING: return one instanceof Guessing;
            case LIFTING: return one instanceof Lifting;
            case LATE: return one instanceof Late;
            case TOLD: return one instanceof Told;
            default: return true;
        }
    }

    private static long commonDivisor(long a, long b) {
        // Numbers up to 10 to the 8th need fewer than 64 steps.
        for (int i = 0; i < 64 && b != 0; i++) {
            long rest = a % b;
            a = b;
            b = rest;
        }
        return a;
    }

    /** All that there is, but THE IMAGE and THE TRACE. */
    private static final class World {
        final byte[] tape = new byte[MAX_SIGNS];
        int signs = 0;
        final Valley[] valleys = new Valley[MAX_VALLEYS];
        int valleyCount = 0;
        final Hand[] people = new Hand[MAX_PEOPLE];
        int peopleCount = 0;
        final int[] free = new int[MAX_PEOPLE];
        final int[] rows = new int[MAX_PEOPLE * PARTS];
        final int[] sort = new int[MAX_TOOLS];
        final int[] holder = new int[MAX_TOOLS];
        final int[] twin = new int[MAX_TOOLS];
        int broken = 0;
        int toolCount = 0;
        final int[] trialOne = new int[MAX_ROWS];
        final int[] trialOther = new int[MAX_ROWS];
        int trialsThatWent = 0;
        int trialCount = 0;
        final int[] bookHour = new int[MAX_ROWS];
        final int[] bookTool = new int[MAX_ROWS];
        int bookCount = 0;

        World() {
        }

        void copyFrom(World other) {
            System.arraycopy(other.tape, 0, tape, 0, MAX_SIGNS);
            signs = other.signs;
            for (int i = 0; i < MAX_VALLEYS; i++) {
                valleys[i] = other.valleys[i];
            }
            valleyCount = other.valleyCount;
            copyPeople(other);
            copyTools(other);
            copyRows(other);
        }

        private void copyPeople(World other) {
            for (int i = 0; i < MAX_PEOPLE; i++) {
                people[i] = other.people[i];
            }
            peopleCount = other.peopleCount;
            System.arraycopy(other.free, 0, free, 0, MAX_PEOPLE);
            System.arraycopy(other.rows, 0, rows, 0, MAX_PEOPLE * PARTS);
        }

        private void copyTools(World other) {
            System.arraycopy(other.sort, 0, sort, 0, MAX_TOOLS);
            System.arraycopy(other.holder, 0, holder, 0, MAX_TOOLS);
            System.arraycopy(other.twin, 0, twin, 0, MAX_TOOLS);
            broken = other.broken;
            toolCount = other.toolCount;
        }

        private void copyRows(World other) {
            System.arraycopy(other.trialOne, 0, trialOne, 0, MAX_ROWS);
            System.arraycopy(other.trialOther, 0, trialOther, 0, MAX_ROWS);
            trialsThatWent = other.trialsThatWent;
            trialCount = other.trialCount;
            System.arraycopy(other.bookHour, 0, bookHour, 0, MAX_ROWS);
            System.arraycopy(other.bookTool, 0, bookTool, 0, MAX_ROWS);
            bookCount = other.bookCount;
        }

        boolean hasPerson(int person) {
            return person >= 0 && person < peopleCount && person < MAX_PEOPLE;
        }

        boolean hasTool(int tool) {
            return tool >= 0 && tool < toolCount && tool < MAX_TOOLS;
        }

        Hand personOrNull(int person) {
            return hasPerson(person) ? people[person] : null;
        }

        Valley valleyOrNull() {
            return valleyCount > 0 && valleyCount <= MAX_VALLEYS ? valleys[valleyCount - 1] : null;
        }

        void addPerson(Hand one) {
            people[peopleCount] = one;
            free[peopleCount] = 0;
            for (int part = 0; part < PARTS; part++) {
                rows[peopleCount * PARTS + part] = NOTHING;
            }
            peopleCount++;
        }

        void addTool(int ofSort, int person) {
            sort[toolCount] = ofSort;
            holder[toolCount] = person;
            twin[toolCount] = NOTHING;
            broken &= ~(1 << toolCount);
            toolCount++;
        }

        void pairUp(int a, int b) {
            twin[a] = b;
            twin[b] = a;
        }

        /** A tool and its twin, if it has one, have none any more. */
        void part(int tool) {
            if (twin[tool] >= 0) {
                twin[twin[tool]] = NOTHING;
            }
            twin[tool] = NOTHING;
        }

        int leastSingle() {
            for (int t = 0; t < toolCount; t++) {
                if (twin[t] < 0) {
                    return t;
                }
            }
            return NOTHING;
        }

        void changeHolders(int a, int b) {
            int before = holder[a];
            holder[a] = holder[b];
            holder[b] = before;
        }

        boolean isFree(int person, int hour) {
            return (free[person] >> hour & 1) != 0;
        }

        int heldBy(int person) {
            int held = 0;
            for (int t = 0; t < toolCount; t++) {
                if (holder[t] == person) {
                    held++;
                }
            }
            return held;
        }

        void addTrial(int a, int b, boolean went) {
            trialOne[trialCount] = a;
            trialOther[trialCount] = b;
            int others = trialsThatWent & ~(1 << trialCount);
            trialsThatWent = went ? others | 1 << trialCount : others;
            trialCount++;
        }

        private boolean wentIn(int trial) {
            return (trialsThatWent >> trial & 1) != 0;
        }

        private boolean mayBeBroken(int tool) {
            for (int i = 0; i < trialCount; i++) {
                int a = trialOne[i];
                int b = trialOther[i];
                boolean should = twin[a] == b && a != tool && b != tool;
                if (should != wentIn(i)) {
                    return false;
                }
            }
            return true;
        }

        int suspects() {
            int bits = 0;
            for (int t = 0; t < toolCount; t++) {
                if (mayBeBroken(t)) {
                    bits |= 1 << t;
                }
            }
            return bits;
        }

        int bestTry() {
            int suspects = suspects();
            int all = Integer.bitCount(suspects);
            int best = NOTHING;
            int least = MAX_TOOLS + 1;
            for (int t = 0; t < toolCount; t++) {
                if (twin[t] > t) {
                    int among = Integer.bitCount(suspects & (1 << t | 1 << twin[t]));
                    int left = Math.max(among, all - among);
                    if (left < least) {
                        least = left;
                        best = t;
                    }
                }
            }
            return best;
        }

        int likelyTwins(int tool) {
            int bits = (1 << toolCount) - 1 & ~(1 << tool);
            for (int i = 0; i < trialCount; i++) {
                if (trialOne[i] == tool || trialOther[i] == tool) {
                    int other = trialOne[i] == tool ? trialOther[i] : trialOne[i];
                    bits &= wentIn(i) ? 1 << other : ~(1 << other);
                }
            }
            return bits;
        }
    }

    /** What the hours of a world come to; its rows are used again for every question. */
    private static final class Plan {
        // What would be is tried out here, so that what is asked changes nothing.
        private final World guess = new World();
        World world = guess;
        int bell = Valley.USUAL_BELL;
        final int[][] worth = new int[MAX_TOOLS][HOURS];
        // Tools as bits: by who holds them, and by who holds their twins.
        final int[] held = new int[MAX_PEOPLE];
        final int[] twinHeld = new int[MAX_PEOPLE];
        int fit = 0;
        int inOneHouse = 0;
        final int[] pairs = new int[MAX_PAIRS];
        final int[] pairHolders = new int[MAX_PAIRS];
        final int[] pairHours = new int[MAX_PAIRS];
        int pairCount = 0;
        // A set of pairs is the bits of their places in the row of pairs.
        final int[] setHolders = new int[SETS];
        final int[] setHours = new int[SETS];
        final int[] setWorth = new int[SETS];
        int changeOne = NOTHING;
        int changeOther = NOTHING;
        int changeMore = 0;
        final int[] joinRow = new int[MAX_JOINED];
        int joinBest = 0;

        Plan() {
        }

        /** Everything below tells of the world that was looked at last, as it was then. */
        void look(World at) {
            world = at;
            Valley valley = at.valleyOrNull();
            bell = valley == null ? Valley.USUAL_BELL : valley.bell;
            Arrays.fill(held, 0);
            Arrays.fill(twinHeld, 0);
            fit = 0;
            inOneHouse = 0;
            pairCount = 0;
            for (int t = 0; t < at.toolCount; t++) {
                held[at.holder[t]] |= 1 << t;
                if (at.twin[t] > t && pairCount < MAX_PAIRS) {
                    addPair(t, at.twin[t], valley);
                }
            }
            reckonSets();
        }

        private void addPair(int tool, int other, Valley valley) {
            Hand one = world.people[world.holder[tool]];
            Hand another = world.people[world.holder[other]];
            if (one == null || another == null) {
                return;
            }
            int both = 1 << tool | 1 << other;
            boolean sameHouse = one.house == another.house;
            fit |= both & ~world.broken;
            inOneHouse |= sameHouse ? both : 0;
            twinHeld[another.number] |= 1 << tool;
            twinHeld[one.number] |= 1 << other;
            boolean can = one.number != another.number && (world.broken & both) == 0;
            pairs[pairCount] = tool;
            pairHolders[pairCount] = 1 << one.number | 1 << another.number;
            pairHours[pairCount] = can ? world.free[one.number] & world.free[another.number] : 0;
            pairCount++;
            Arrays.fill(worth[tool], 0);
            if (valley != null) {
                valley.setFacts(world.sort[tool], tool, one.kind, sameHouse);
                valley.reckon(worth[tool]);
            }
            System.arraycopy(worth[tool], 0, worth[other], 0, HOURS);
        }

        private void reckonSets() {
            setHours[0] = ALL_HOURS;
            for (int i = 0; i < pairCount; i++) {
                for (int rest = 0; rest < 1 << i; rest++) {
                    int set = rest | 1 << i;
                    boolean twice = (setHolders[rest] & pairHolders[i]) != 0;
                    setHolders[set] = setHolders[rest] | pairHolders[i];
                    setHours[set] = twice ? 0 : setHours[rest] & pairHours[i];
                }
            }
        }

        int fitOf(int person) {
            return held[person] & fit;
        }

        int withOtherFree(int person, int hour) {
            int bits = 0;
            for (int p = 0; p < world.peopleCount; p++) {
                if (p != person && (world.free[p] >> hour & 1) != 0) {
                    bits |= twinHeld[p];
                }
            }
            return bits;
        }

        int least(int tools) {
            for (int t = 0; t < world.toolCount; t++) {
                if ((tools >> t & 1) != 0) {
                    return t;
                }
            }
            return NOTHING;
        }

        int dearest(int tools, int hour) {
            int best = NOTHING;
            for (int t = 0; t < world.toolCount; t++) {
                if ((tools >> t & 1) != 0 && (best < 0 || worth[t][hour] > worth[best][hour])) {
                    best = t;
                }
            }
            return best;
        }

        int workedTools(int hour) {
            int bits = 0;
            for (int p = 0; p < world.peopleCount; p++) {
                Hand one = world.people[p];
                int tool = one == null ? NOTHING : one.worksAt(this, hour);
                if (tool >= 0) {
                    bits |= 1 << tool;
                }
            }
            return bits;
        }

        boolean goes(int tool, int worked) {
            int other = world.twin[tool];
            if (other < 0) {
                return false;
            }
            int both = 1 << tool | 1 << other;
            return (worked & ~world.broken & both) == both;
        }

        int goingPairs(int worked) {
            int bits = 0;
            for (int i = 0; i < pairCount; i++) {
                if (goes(pairs[i], worked)) {
                    bits |= 1 << pairs[i];
                }
            }
            return bits;
        }

        int waitingTools(int worked) {
            int bits = worked;
            for (int t = 0; t < world.toolCount; t++) {
                if (goes(t, worked)) {
                    bits &= ~(1 << t);
                }
            }
            return bits;
        }

        int goneHours(int tool) {
            int bits = 0;
            for (int h = 0; h < HOURS; h++) {
                if (goes(tool, workedTools(h))) {
                    bits |= 1 << h;
                }
            }
            return bits;
        }

        int allWorth() {
            int sum = 0;
            for (int h = 0; h < HOURS; h++) {
                int worked = workedTools(h);
                for (int i = 0; i < pairCount; i++) {
                    if (goes(pairs[i], worked)) {
                        sum += worth[pairs[i]][h];
                    }
                }
            }
            return sum;
        }

        int waiting() {
            int sum = 0;
            for (int h = 0; h < HOURS; h++) {
                sum += Integer.bitCount(waitingTools(workedTools(h)));
            }
            return sum;
        }

        /** The sets come as their bits rise, and so as the bits of their lesser tools rise: the first one stays. */
        private int bestSet(int hour) {
            int best = 0;
            for (int i = 0; i < pairCount; i++) {
                for (int rest = 0; rest < 1 << i; rest++) {
                    int set = rest | 1 << i;
                    // What a set that can leaves out is a set that can, so its worth is there.
                    if ((setHours[set] >> hour & 1) != 0) {
                        setWorth[set] = setWorth[rest] + worth[pairs[i]][hour];
                        best = setWorth[set] > setWorth[best] ? set : best;
                    }
                }
            }
            return best;
        }

        int mostIn(int hour) {
            return setWorth[bestSet(hour)];
        }

        int mostSetIn(int hour) {
            int set = bestSet(hour);
            int bits = 0;
            for (int i = 0; i < pairCount; i++) {
                if ((set >> i & 1) != 0) {
                    bits |= 1 << pairs[i];
                }
            }
            return bits;
        }

        int manyIn(int hour) {
            int many = 0;
            for (int set = 0; set < 1 << pairCount; set++) {
                if ((setHours[set] >> hour & 1) != 0) {
                    many = Math.max(many, Integer.bitCount(set));
                }
            }
            return many;
        }

        int bestDay() {
            int sum = 0;
            for (int h = 0; h < HOURS; h++) {
                sum += mostIn(h);
            }
            return sum;
        }

        void seekChange(World at) {
            look(at);
            int before = bestDay();
            changeOne = NOTHING;
            changeOther = NOTHING;
            changeMore = 0;
            guess.copyFrom(at);
            for (int a = 0; a < guess.toolCount; a++) {
                for (int b = a + 1; b < guess.toolCount; b++) {
                    if (guess.holder[a] != guess.holder[b]) {
                        guess.changeHolders(a, b);
                        look(guess);
                        guess.changeHolders(a, b);
                        keepChange(a, b, bestDay() - before);
                    }
                }
            }
        }

        private void keepChange(int a, int b, int more) {
            if (more > changeMore) {
                changeOne = a;
                changeOther = b;
                changeMore = more;
            }
        }

        int lostWithout(World at, int person) {
            look(at);
            int before = bestDay();
            guess.copyFrom(at);
            guess.free[person] = 0;
            look(guess);
            return before - bestDay();
        }

        void seekJoin(World at) {
            guess.copyFrom(at);
            Arrays.fill(guess.twin, NOTHING);
            joinBest = -1;
            joinRest(0);
        }

        /** The least single tool takes each other one in turn, so that the rows of twins come in their order. */
        private void joinRest(int joined) {
            int a = guess.leastSingle();
            if (a < 0 || joined >= MAX_JOINED / 2) {
                look(guess);
                keepJoin(bestDay());
                return;
            }
            for (int b = a + 1; b < guess.toolCount; b++) {
                if (guess.twin[b] < 0) {
                    guess.pairUp(a, b);
                    joinRest(joined + 1);
                    guess.part(a);
                }
            }
        }

        private void keepJoin(int best) {
            if (best > joinBest) {
                joinBest = best;
                System.arraycopy(guess.twin, 0, joinRow, 0, MAX_JOINED);
            }
        }
    }

    /** A text of what an hour of a pair is worth, read into steps: the parts of a joint, then the joint. */
    private static final class Valley {
        static final int SOUND = -1, USUAL_BELL = 6;
        private static final int HOUR = 0, SORT = 1, TOOL = 2, KIND = 3, ONE_HOUSE = 4, LETTERS = 5;
        private static final int BELOW = 0, EQUAL = 1, SIGNS = 3, NUMBERS = 100;
        private static final int AND = -1, OR = -2, NOT = -3;
        private static final int EITHER = 0, FACTOR = 2;
        // Each ( that is open leaves at most one part of an | and one of an & waiting for the other.
        private static final int MAX_PARTS = 2 * (MAX_OPEN + 1) + 1;

        int bell = USUAL_BELL;
        private final int[] amounts = new int[MAX_CLAUSES];
        private final int[] ends = new int[MAX_CLAUSES];
        private int clauseCount = 0;
        private final int[] steps = new int[MAX_SIGNS];
        private int stepCount = 0;
        private final int[] facts = new int[LETTERS];
        private final int[] parts = new int[MAX_PARTS];
        private final byte[] text = new byte[MAX_SIGNS];
        private int size = 0;
        private int place = 0;
        private int number = 0;

        Valley() {
        }

        /** SOUND, or the FAULT: reading stops with place at the first sign that does not fit. */
        int read(byte[] tape, int signs) {
            bell = USUAL_BELL;
            clauseCount = 0;
            stepCount = 0;
            size = Math.min(signs, MAX_SIGNS);
            System.arraycopy(tape, 0, text, 0, MAX_SIGNS);
            place = 0;
            for (int i = 1; i <= MAX_CLAUSES; i++) {
                if (!readClause()) {
                    return place;
                }
                if (place >= size) {
                    return SOUND;
                }
                if (i == MAX_CLAUSES || !take(';')) {
                    return place;
                }
            }
            return place;
        }

        private boolean readClause() {
            switch (next()) {
                case 'w': return takeAll("worth ") && readAmount(1);
                case 'l': return takeAll("less ") && readAmount(-1);
                case 'b': return takeAll("bell ") && readBell();
                default: return false;
            }
        }

        private boolean readBell() {
            if (!readNumber()) {
                return false;
            }
            bell = Math.max(number, 1);
            return true;
        }

        private boolean readAmount(int side) {
            if (!readNumber()) {
                return false;
            }
            int amount = side * number;
            if (!take(' ') || !readPart(EITHER, 0) || clauseCount >= MAX_CLAUSES) {
                return false;
            }
            amounts[clauseCount] = amount;
            ends[clauseCount] = stepCount;
            clauseCount++;
            return true;
        }

        /** An E, a T or an F, as the level rises: each is made of the next one's, an F of what it opens. */
        private boolean readPart(int level, int open) {
            if (level >= FACTOR) {
                return next() == '!' || next() == '(' ? readOpened(open + 1) : readTest();
            }
            char joint = level == EITHER ? '|' : '&';
            if (!readPart(level + 1, open)) {
                return false;
            }
            for (int i = 0; i < MAX_SIGNS && take(joint); i++) {
                if (!readPart(level + 1, open)) {
                    return false;
                }
                addStep(level == EITHER ? OR : AND);
            }
            return true;
        }

        private boolean readOpened(int open) {
            if (open > MAX_OPEN) {
                return false;
            }
            if (take('(')) {
                return readPart(EITHER, open) && take(')');
            }
            if (!take('!') || !readPart(FACTOR, open)) {
                return false;
            }
            addStep(NOT);
            return true;
        }

        private boolean readTest() {
            int letter = takeOneOf("hstkx");
            if (letter < 0) {
                return false;
            }
            int sign = takeOneOf("<=>");
            if (sign < 0 || !readNumber()) {
                return false;
            }
            addStep((letter * SIGNS + sign) * NUMBERS + number);
            return true;
        }

        private boolean readNumber() {
            int first = takeOneOf("0123456789");
            if (first < 0) {
                return false;
            }
            number = first;
            int second = first == 0 ? -1 : takeOneOf("0123456789");
            if (second >= 0) {
                number = first * 10 + second;
            }
            return true;
        }

        /** 0, which fits nowhere, behind the end. */
        private int next() {
            return place < size ? text[place] : 0;
        }

        private boolean take(char sign) {
            boolean there = place < size && text[place] == sign;
            if (there) {
                place++;
            }
            return there;
        }

        private boolean takeAll(String signs) {
            for (int i = 0; i < signs.length(); i++) {
                if (!take(signs.charAt(i))) {
                    return false;
                }
            }
            return true;
        }

        private int takeOneOf(String signs) {
            int which = place < size ? signs.indexOf((char) text[place]) : -1;
            if (which >= 0) {
                place++;
            }
            return which;
        }

        private void addStep(int step) {
            if (stepCount < MAX_SIGNS) {
                steps[stepCount] = step;
                stepCount++;
            }
        }

        void setFacts(int sort, int tool, int kind, boolean oneHouse) {
            facts[SORT] = sort;
            facts[TOOL] = tool;
            facts[KIND] = kind;
            facts[ONE_HOUSE] = oneHouse ? 1 : 0;
        }

        /** Adds what the pair of the facts is worth to each hour of a row. */
        void reckon(int[] hours) {
            int from = 0;
            for (int c = 0; c < clauseCount; c++) {
                int when = holdsWhen(from, ends[c]);
                from = ends[c];
                for (int h = 0; h < HOURS && h < hours.length; h++) {
                    if ((when >> h & 1) != 0) {
                        hours[h] += amounts[c];
                    }
                }
            }
        }

        /** All hours at once, as bits: whatever else is tested is the same in each. */
        private int holdsWhen(int from, int to) {
            int depth = 0;
            for (int i = from; i < to; i++) {
                int step = steps[i];
                if (step >= 0) {
                    if (depth < MAX_PARTS) {
                        parts[depth] = testedWhen(step);
                        depth++;
                    }
                } else if (step == NOT) {
                    if (depth > 0) {
                        parts[depth - 1] ^= ALL_HOURS;
                    }
                } else if (depth > 1) {
                    depth--;
                    int last = parts[depth];
                    parts[depth - 1] = step == AND ? parts[depth - 1] & last : parts[depth - 1] | last;
                }
            }
            return depth > 0 ? parts[0] : 0;
        }

        private int testedWhen(int step) {
            int than = step % NUMBERS;
            int sign = step / NUMBERS % SIGNS;
            int letter = step / NUMBERS / SIGNS;
            if (letter == HOUR) {
                int below = than < HOURS ? (1 << than) - 1 : ALL_HOURS;
                int equal = than < HOURS ? 1 << than : 0;
                return sign == BELOW ? below : sign == EQUAL ? equal : ALL_HOURS & ~below & ~equal;
            }
            int fact = letter < LETTERS ? facts[letter] : 0;
            boolean so = sign == BELOW ? fact < than : sign == EQUAL ? fact == than : fact > than;
            return so ? ALL_HOURS : 0;
        }
    }

    /** The numbers of the bodies that ran in the latest act. */
    private static final class Trace {
        final int[] bodies = new int[MAX_KEPT];
        int size = 0;

        Trace() {
        }

        void restart() {
            size = 0;
        }

        void begin(int body) {
            if (size < MAX_KEPT) {
                bodies[size] = body;
            }
            size++;
        }
    }

    /** One of the people; what can change of it stands in the world, so that worlds may share it. */
    private static class Hand {
        final int kind;
        final int number;
        final int v;
        final int house;

        Hand(int kind, int number, int v, int house) {
            this.kind = kind;
            this.number = number;
            this.v = v;
            this.house = house;
        }

        int worksAt(Plan plan, int hour) {
            int tool = comes(plan.world, hour) ? picks(plan, hour) : NOTHING;
            return tool >= 0 ? tool : insteadOfNone(plan);
        }

        boolean comes(World world, int hour) {
            return world.isFree(number, hour);
        }

        int picks(Plan plan, int hour) {
            return plan.least(plan.fitOf(number));
        }

        int insteadOfNone(Plan plan) {
            return NOTHING;
        }

        int lifts(int x, Trace ran) {
            ran.begin(1);
            return x + number;
        }

        int waits(int x, Trace ran) {
            ran.begin(2);
            return lifts(x, ran) - v;
        }

        int tells(int x, Trace ran) {
            ran.begin(3);
            return waits(x, ran) * 2;
        }
    }

    private static class Bell extends Hand {
        Bell(int kind, int number, int v, int house) {
            super(kind, number, v, house);
        }

        int picks(Plan plan, int hour) {
            boolean rings = plan.bell > 0 && hour % plan.bell == 0;
            return rings ? plan.dearest(plan.fitOf(number), hour) : NOTHING;
        }

        int lifts(int x, Trace ran) {
            ran.begin(11);
            return super.lifts(x * 3, ran);
        }
    }

    private static class Home extends Hand {
        Home(int kind, int number, int v, int house) {
            super(kind, number, v, house);
        }

        int picks(Plan plan, int hour) {
            int tool = plan.least(plan.fitOf(number) & plan.inOneHouse);
            return tool >= 0 ? tool : super.picks(plan, hour);
        }

        int waits(int x, Trace ran) {
            ran.begin(21);
            return -super.waits(x, ran);
        }
    }

    private static class Guessing extends Hand {
        Guessing(int kind, int number, int v, int house) {
            super(kind, number, v, house);
        }

        int picks(Plan plan, int hour) {
            return plan.dearest(plan.fitOf(number) & plan.withOtherFree(number, hour), hour);
        }

        int tells(int x, Trace ran) {
            ran.begin(31);
            return super.tells(x, ran) ^ 7;
        }
    }

    private static final class Lifting extends Bell {
        Lifting(int kind, int number, int v, int house) {
            super(kind, number, v, house);
        }

        int insteadOfNone(Plan plan) {
            return (plan.fitOf(number) >> v & 1) != 0 ? v : NOTHING;
        }

        int tells(int x, Trace ran) {
            ran.begin(41);
            return super.tells(x - 1, ran) + lifts(2, ran);
        }
    }

    private static final class Late extends Home {
        Late(int kind, int number, int v, int house) {
            super(kind, number, v, house);
        }

        boolean comes(World world, int hour) {
            return super.comes(world, Math.floorMod(hour - v, HOURS));
        }

        int lifts(int x, Trace ran) {
            ran.begin(51);
            return super.lifts(x, ran) ^ number;
        }
    }

    private static final class Told extends Guessing {
        Told(int kind, int number, int v, int house) {
            super(kind, number, v, house);
        }

        int picks(Plan plan, int hour) {
            int tool = plan.world.rows[number * PARTS + hour % PARTS];
            boolean holds = tool >= 0 && (plan.held[number] >> tool & 1) != 0;
            return holds ? tool : super.picks(plan, hour);
        }

        int waits(int x, Trace ran) {
            ran.begin(61);
            return super.waits(x, ran) + v;
        }
    }
}
