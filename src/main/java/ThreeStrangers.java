/** Coaches that leave as soon as enough people who don't know each other are in the yard. */
public final class ThreeStrangers {
    public static final int NONE = -1;

    private static final int BAD = -2;
    private static final int OTHER = -3;
    private static final int NOTHING = -4;
    private static final int STUCK = -5;
    private static final int FULL = -6;

    private static final int ROOM = 7;
    private static final int HOURS = 24;
    private static final int COSTS = 10;
    private static final int OLDEST = 99;
    private static final int FEWEST_SEATS = 2;
    private static final int MOST_SEATS = 4;
    private static final int SHELVES = 8;
    private static final int SORTS = 5;
    private static final int LONGEST_ROW = 40;
    private static final int KINDS = 6;
    private static final int MOST_DAYS = 30;
    private static final int MOST_IN_SECRET = 5;
    private static final int FAULT = -20;

    private final Town town = new Town();
    private final Town kept = new Town();
    private final Town draft = new Town();
    private final Ties ties = new Ties();
    private final Day plan = new Day();
    private final Scribe scribe = new Scribe();
    private final Shelf[] shelves = new Shelf[SHELVES];
    private final int[] refused = new int[1 - FULL];
    private boolean isKept;

    public ThreeStrangers() {
        for (int s = 0; s < SHELVES; s++) {
            shelves[s] = new Shelf();
        }
    }

    // ---- shelves

    public int row(int s, int sort, int n) {
        if (!isShelf(s) || sort < 0 || sort >= SORTS || n < 0 || n > LONGEST_ROW) {
            return refuse(BAD);
        }
        shelves[s].takeRow(sort, n);
        return 1;
    }

    public int set(int s, int i, long v) {
        if (!holdsRow(s)) {
            return refuse(whyNoRow(s));
        }
        if (i < 0 || i >= shelves[s].size) {
            return refuse(BAD);
        }
        shelves[s].put(i, v);
        return 1;
    }

    public int copy(int p, int q, int i, int j, int n) {
        if (!isShelf(p) || !isShelf(q)) {
            return refuse(BAD);
        }
        Shelf from = shelves[p];
        Shelf to = shelves[q];
        boolean bothRows = from.isRow() && to.isRow();
        if (from.man != null || to.man != null || bothRows && from.sort != to.sort) {
            return refuse(OTHER);
        }
        if (!bothRows) {
            return refuse(NOTHING);
        }
        if (i < 0 || j < 0 || n < 0 || n > from.size - i || n > to.size - j) {
            return refuse(BAD);
        }
        System.arraycopy(from.items, i, to.items, j, n);
        return n;
    }

    public long element(int s, int i) {
        if (!holdsRow(s) || i < 0 || i >= shelves[s].size) {
            return 0;
        }
        return shelves[s].items[i];
    }

    public int holds(int s) {
        if (!isShelf(s)) {
            return NONE;
        }
        Coachman man = shelves[s].man;
        return man == null ? shelves[s].sort : 10 + man.kind();
    }

    public int coachman(int s, int kind, int a) {
        if (!isShelf(s) || kind < 1 || kind >= KINDS || a < 0 || a > 9) {
            return refuse(BAD);
        }
        shelves[s].takeMan(newCoachman(kind, a));
        return 1;
    }

    public int says(int s, int kind) {
        if (!isShelf(s) || kind < 0 || kind >= KINDS) {
            return refuse(BAD);
        }
        Coachman man = manIn(s);
        if (man == null) {
            return refuse(whyNoMan(s));
        }
        if (!man.isOf(kind)) {
            return refuse(OTHER);
        }
        if (kind == 0) {
            return man.number();
        }
        ties.load(town);
        return man.pick(ties, town.everybody(), 0);
    }

    // ---- the town

    public int person(int hour, int cost) {
        if (!isHour(hour) || !isCost(cost)) {
            return refuse(BAD);
        }
        if (town.people >= ROOM) {
            return refuse(FULL);
        }
        return town.add(hour, cost);
    }

    public int change(int one, int what, int v) {
        boolean mayBe = what == 0 ? isHour(v) : what == 1 && isCost(v);
        if (!town.has(one) || !mayBe) {
            return refuse(BAD);
        }
        int[] told = what == 0 ? town.hour : town.cost;
        int was = told[one];
        told[one] = v;
        return was;
    }

    public int know(int one, int other, int years) {
        if (!town.hasTwo(one, other) || years < NONE || years > OLDEST) {
            return refuse(BAD);
        }
        int was = town.since(one, other);
        town.tie(one, other, years);
        return was;
    }

    public int ask(int what, int v) {
        if (what == 0 && v >= FEWEST_SEATS && v <= MOST_SEATS) {
            int was = town.seats;
            town.seats = v;
            return was;
        }
        if (what == 1 && v >= 0 && v <= OLDEST) {
            int was = town.memory;
            town.memory = v;
            return was;
        }
        return refuse(BAD);
    }

    public int feed(int letter) {
        if (letter < 0 || letter > 255) {
            return refuse(BAD);
        }
        if (scribe.isFull()) {
            return refuse(FULL);
        }
        scribe.append(letter);
        return scribe.size;
    }

    public int wipe() {
        int was = scribe.size;
        scribe.clear();
        return was;
    }

    public int town() {
        draft.become(town);
        int statements = scribe.read(draft);
        scribe.clear();
        if (statements == NONE) {
            refuse(BAD);
            return FAULT - scribe.fault;
        }
        town.become(draft);
        return statements;
    }

    public int personOf(int one, int what) {
        if (!town.has(one)) {
            return refuse(BAD);
        }
        switch (what) {
            case 0:
                return town.hour[one];
            case 1:
                return town.cost[one];
            case 2:
                return town.strangersTo(one);
            case 3:
                return Integer.bitCount(town.strangersTo(one));
            default:
                return refuse(BAD);
        }
    }

    public int knownOf(int one, int other) {
        return town.hasTwo(one, other) ? town.since(one, other) : refuse(BAD);
    }

    // ---- groups

    public int isGroup(int set) {
        if (!town.hasAll(set)) {
            return refuse(BAD);
        }
        ties.load(town);
        return ties.isOne(set) ? 1 : 0;
    }

    public int groups(int set) {
        if (!town.hasAll(set)) {
            return refuse(BAD);
        }
        ties.load(town);
        return ties.countIn(set);
    }

    public int firstOf(int set) {
        if (!town.hasAll(set)) {
            return refuse(BAD);
        }
        ties.load(town);
        return ties.firstIn(set);
    }

    public int most(int set) {
        if (!town.hasAll(set)) {
            return refuse(BAD);
        }
        ties.load(town);
        return ties.mostFrom(set);
    }

    public int mostOf(int set, int i) {
        if (!town.hasAll(set) || i < 0) {
            return refuse(BAD);
        }
        ties.load(town);
        if (i >= ties.mostFrom(set)) {
            return refuse(STUCK);
        }
        return ties.mostRow(set, i);
    }

    // ---- a day

    public int sends(int s, int set, int n) {
        if (!town.hasAll(set) || n < 0 || n > ROOM) {
            return refuse(BAD);
        }
        Coachman man = manIn(s);
        if (man == null) {
            return refuse(whyNoMan(s));
        }
        ties.load(town);
        return man.pick(ties, set, n);
    }

    public int run(int s) {
        Coachman man = manIn(s);
        if (man == null) {
            return refuse(whyNoMan(s));
        }
        think(man);
        return plan.sent;
    }

    public int coach(int s, int i) {
        if (i < 0) {
            return refuse(BAD);
        }
        Coachman man = manIn(s);
        if (man == null) {
            return refuse(whyNoMan(s));
        }
        think(man);
        if (i >= plan.sent) {
            return refuse(STUCK);
        }
        return plan.coachAt(i);
    }

    public int left(int s) {
        Coachman man = manIn(s);
        if (man == null) {
            return refuse(whyNoMan(s));
        }
        think(man);
        return plan.yard;
    }

    public int waits(int s, int one) {
        if (one != NONE && !town.has(one)) {
            return refuse(BAD);
        }
        Coachman man = manIn(s);
        if (man == null) {
            return refuse(whyNoMan(s));
        }
        think(man);
        return one == NONE ? plan.waitingOfAll(town) : plan.waitingOf(town, one);
    }

    public int least(int what) {
        if (what != 0 && what != 1) {
            return refuse(BAD);
        }
        ties.load(town);
        plan.findLeast(town, ties);
        return what == 0 ? plan.leastWaiting() : plan.leastCoaches();
    }

    public int head() {
        int best = NONE;
        int bestWaiting = 0;
        for (int s = 0; s < SHELVES; s++) {
            Coachman man = shelves[s].man;
            if (man != null) {
                think(man);
                int waiting = plan.waitingOfAll(town);
                if (best == NONE || waiting < bestWaiting) {
                    best = s;
                    bestWaiting = waiting;
                }
            }
        }
        return best == NONE ? refuse(STUCK) : best;
    }

    // ---- what comes of it

    public int days(int s) {
        Coachman man = manIn(s);
        if (man == null) {
            return refuse(whyNoMan(s));
        }
        ties.load(town);
        for (int d = 0; d < MOST_DAYS; d++) {
            plan.pass(town, ties, man);
            if (plan.sent == 0) {
                return d;
            }
            for (int i = 0; i < plan.sent; i++) {
                ties.acquaint(plan.coachAt(i));
            }
        }
        return MOST_DAYS;
    }

    public int ever(int what) {
        if (what != 0 && what != 1) {
            return refuse(BAD);
        }
        ties.load(town);
        return what == 0 ? ties.longest() : ties.soonest();
    }

    public int hire() {
        ties.load(town);
        int without = ties.mostFrom(town.everybody());
        ties.addStranger();
        return ties.mostFrom(town.everybody() | 1 << town.people) - without;
    }

    public int feast(int set) {
        if (!town.hasAll(set)) {
            return refuse(BAD);
        }
        ties.load(town);
        int without = ties.longest();
        ties.acquaint(set);
        return without - ties.longest();
    }

    public int closes(int one, int other) {
        if (!town.hasTwo(one, other)) {
            return refuse(BAD);
        }
        ties.load(town);
        return ties.countWith(1 << one | 1 << other);
    }

    public int worst() {
        ties.load(town);
        int two = ties.closest();
        return two == NONE ? refuse(STUCK) : two;
    }

    public int fits(int set) {
        if (!canBeSecret(set)) {
            return refuse(BAD);
        }
        ties.load(town);
        return ties.countWays(set);
    }

    public int sure(int set) {
        if (!canBeSecret(set)) {
            return refuse(BAD);
        }
        ties.load(town);
        int two = ties.surest(set);
        return two == NONE ? refuse(STUCK) : two;
    }

    // ---- told days

    public int judge(int s, int n) {
        int no = whyNotTold(s, n);
        return no != 0 ? refuse(no) : firstWrong(s, n);
    }

    public int behind(int s, int n, int what) {
        if (what != 0 && what != 1) {
            return refuse(BAD);
        }
        int no = whyNotRidden(s, n);
        if (no != 0) {
            return refuse(no);
        }
        int stayed = town.everybody();
        for (int i = 0; i < n; i++) {
            int group = (int) shelves[s].items[i];
            stayed &= ~group;
            ties.acquaint(group);
        }
        return what == 0 ? stayed : ties.countIn(town.everybody());
    }

    public int rides(int s, int n) {
        int no = whyNotRidden(s, n);
        if (no != 0) {
            return refuse(no);
        }
        for (int i = 0; i < n; i++) {
            town.acquaint((int) shelves[s].items[i]);
        }
        town.endDay(n);
        return n;
    }

    // ---- in truth

    public int day(int s) {
        Coachman man = manIn(s);
        if (man == null) {
            return refuse(whyNoMan(s));
        }
        think(man);
        for (int i = 0; i < plan.sent; i++) {
            town.acquaint(plan.coachAt(i));
        }
        town.endDay(plan.sent);
        return plan.sent;
    }

    public int meet(int set) {
        return town.hasAll(set) ? town.acquaint(set) : refuse(BAD);
    }

    public int year() {
        return town.age();
    }

    public int come(int n) {
        if (n < 1 || n > ROOM) {
            return refuse(BAD);
        }
        int came = Math.min(n, ROOM - town.people);
        for (int i = 0; i < came; i++) {
            town.addByDraws();
        }
        return came;
    }

    public int seed(int v) {
        int was = town.seed;
        town.seed = v;
        return was;
    }

    public int image() {
        kept.become(town);
        isKept = true;
        return 1;
    }

    public int back() {
        if (!isKept) {
            return refuse(STUCK);
        }
        town.become(kept);
        return 1;
    }

    public int status(int what) {
        switch (what) {
            case 0:
                return town.people;
            case 1:
                return town.seats;
            case 2:
                return town.memory;
            case 3:
                return town.countStrangers();
            case 4:
                return town.coaches;
            case 5:
                return town.days;
            case 6:
                return town.years;
            case 7:
                return scribe.size;
            case 8:
                return town.seed;
            case 9:
                return countHeld();
            default:
                return what >= 12 && what <= 16 ? refused[what - 10] : NONE;
        }
    }

    // ---- what the calls share

    private int refuse(int number) {
        if (number <= BAD && number >= FULL) {
            refused[-number]++;
        }
        return number;
    }

    private static boolean isShelf(int s) {
        return s >= 0 && s < SHELVES;
    }

    private static boolean isHour(int v) {
        return v >= 0 && v < HOURS;
    }

    private static boolean isCost(int v) {
        return v >= 0 && v < COSTS;
    }

    private boolean canBeSecret(int set) {
        return town.hasAll(set) && Integer.bitCount(set) <= MOST_IN_SECRET;
    }

    private boolean holdsRow(int s) {
        return isShelf(s) && shelves[s].isRow();
    }

    private int whyNoRow(int s) {
        if (!isShelf(s)) {
            return BAD;
        }
        return shelves[s].man != null ? OTHER : NOTHING;
    }

    private Coachman manIn(int s) {
        return isShelf(s) ? shelves[s].man : null;
    }

    private int whyNoMan(int s) {
        if (!isShelf(s)) {
            return BAD;
        }
        return shelves[s].isRow() ? OTHER : NOTHING;
    }

    private int countHeld() {
        int held = 0;
        for (int s = 0; s < SHELVES; s++) {
            if (shelves[s].man != null || shelves[s].isRow()) {
                held++;
            }
        }
        return held;
    }

    private static Coachman newCoachman(int kind, int a) {
        switch (kind) {
            case 1:
                return new First(a);
            case 2:
                return new Choose(a);
            case 3:
                return new Waits(a);
            case 4:
                return new Spares(a);
            default:
                return new Best(a);
        }
    }

    private void think(Coachman man) {
        ties.load(town);
        plan.pass(town, ties, man);
    }

    /** Why the first n elements on a shelf are no told day; 0: they are one. */
    private int whyNotTold(int s, int n) {
        if (!isShelf(s) || n < 0 || n > ROOM) {
            return BAD;
        }
        if (!holdsRow(s)) {
            return whyNoRow(s);
        }
        return n > shelves[s].size ? BAD : 0;
    }

    /** Why a told day can't come to pass; 0: it can, and the ties are those of its morning. */
    private int whyNotRidden(int s, int n) {
        int no = whyNotTold(s, n);
        if (no != 0) {
            return no;
        }
        return firstWrong(s, n) != NONE ? STUCK : 0;
    }

    private int firstWrong(int s, int n) {
        ties.load(town);
        int rode = 0;
        for (int i = 0; i < n; i++) {
            long told = shelves[s].items[i];
            if (told < 0 || told > town.everybody()) {
                return i;
            }
            int group = (int) told;
            if (!ties.isOne(group) || (group & rode) != 0) {
                return i;
            }
            rode |= group;
        }
        return NONE;
    }

    /** What is kept by image and brought again by back. */
    private static final class Town {
        final int[] hour = new int[ROOM];
        final int[] cost = new int[ROOM];
        private final int[] since = new int[ROOM * ROOM];
        int people;
        int seats = 3;
        int memory;
        int seed = 1;
        int coaches;
        int days;
        int years;

        boolean has(int one) {
            return one >= 0 && one < people;
        }

        boolean hasTwo(int one, int other) {
            return has(one) && has(other) && one != other;
        }

        boolean hasAll(int set) {
            return set >= 0 && set <= everybody();
        }

        int everybody() {
            return (1 << people) - 1;
        }

        int since(int one, int other) {
            return since[one * ROOM + other];
        }

        void tie(int one, int other, int span) {
            since[one * ROOM + other] = span;
            since[other * ROOM + one] = span;
        }

        int add(int comes, int costs) {
            if (people >= ROOM) {
                return NONE;
            }
            int one = people;
            people++;
            hour[one] = comes;
            cost[one] = costs;
            for (int other = 0; other < one; other++) {
                tie(one, other, NONE);
            }
            return one;
        }

        void addByDraws() {
            int comes = draw(HOURS);
            int costs = draw(COSTS);
            int one = add(comes, costs);
            for (int other = 0; other < one; other++) {
                if (draw(3) == 0) {
                    tie(one, other, 0);
                }
            }
        }

        private int draw(int below) {
            seed = seed * 1103515245 + 12345;
            return below < 1 ? 0 : (seed >>> 16) % below;
        }

        int strangersTo(int one) {
            int bits = 0;
            for (int other = 0; other < people; other++) {
                if (other != one && since(one, other) == NONE) {
                    bits |= 1 << other;
                }
            }
            return bits;
        }

        int countStrangers() {
            int twice = 0;
            for (int one = 0; one < people; one++) {
                twice += Integer.bitCount(strangersTo(one));
            }
            return twice / 2;
        }

        /** Makes all of a set known to each other; tells how many two were strangers. */
        int acquaint(int set) {
            int met = 0;
            for (int one = 0; one < people; one++) {
                for (int other = 0; other < one; other++) {
                    if ((set >> one & set >> other & 1) != 0) {
                        met += since(one, other) == NONE ? 1 : 0;
                        tie(one, other, 0);
                    }
                }
            }
            return met;
        }

        void endDay(int gone) {
            coaches += gone;
            days++;
        }

        int age() {
            int forgot = 0;
            years++;
            for (int one = 0; one < people; one++) {
                for (int other = 0; other < one; other++) {
                    int span = since(one, other);
                    if (span != NONE) {
                        int older = Math.min(span + 1, OLDEST);
                        boolean forgets = memory != 0 && older > memory;
                        tie(one, other, forgets ? NONE : older);
                        forgot += forgets ? 1 : 0;
                    }
                }
            }
            return forgot;
        }

        void become(Town like) {
            System.arraycopy(like.hour, 0, hour, 0, ROOM);
            System.arraycopy(like.cost, 0, cost, 0, ROOM);
            System.arraycopy(like.since, 0, since, 0, ROOM * ROOM);
            people = like.people;
            seats = like.seats;
            memory = like.memory;
            seed = like.seed;
            coaches = like.coaches;
            days = like.days;
            years = like.years;
        }
    }

    /** Who is a stranger to whom, in thought, and the groups there are of it, in their order. */
    private static final class Ties {
        private static final int HEADS = ROOM + 1;
        static final int MOST_GROUPS = 70;
        private static final int MOST_PAIRS = HEADS * ROOM / 2;

        private final int[] strangers = new int[HEADS];
        private final int[] cost = new int[HEADS];
        final int[] group = new int[MOST_GROUPS];
        private final int[] pairs = new int[MOST_GROUPS];
        private final int[] most = new int[1 << HEADS];
        private final int[] known = new int[MOST_PAIRS];
        private int people;
        private int seats;
        int count;
        private int best;
        private boolean isCounted;

        void load(Town town) {
            people = town.people;
            seats = town.seats;
            for (int p = 0; p < people; p++) {
                strangers[p] = town.strangersTo(p);
                cost[p] = town.cost[p];
            }
            list();
        }

        void addStranger() {
            if (people >= HEADS) {
                return;
            }
            for (int p = 0; p < people; p++) {
                strangers[p] |= 1 << people;
            }
            strangers[people] = everybody();
            cost[people] = 0;
            people++;
            list();
        }

        void acquaint(int set) {
            for (int p = 0; p < people; p++) {
                if ((set >> p & 1) != 0) {
                    strangers[p] &= ~set;
                }
            }
            list();
        }

        private int everybody() {
            return (1 << people) - 1;
        }

        private void list() {
            count = 0;
            isCounted = false;
            gather(0, everybody(), seats);
        }

        /** Least numbers first, so that the groups come in their order. */
        private void gather(int chosen, int open, int missing) {
            if (missing <= 0) {
                if (count < MOST_GROUPS) {
                    group[count] = chosen;
                    count++;
                }
                return;
            }
            for (int p = 0; p < people; p++) {
                if ((open >> p & 1) != 0) {
                    int above = -(2 << p);
                    gather(chosen | 1 << p, open & strangers[p] & above, missing - 1);
                }
            }
        }

        boolean isOne(int set) {
            for (int i = 0; i < count; i++) {
                if (group[i] == set) {
                    return true;
                }
            }
            return false;
        }

        int countIn(int set) {
            int found = 0;
            for (int i = 0; i < count; i++) {
                found += (group[i] & set) == group[i] ? 1 : 0;
            }
            return found;
        }

        int countWith(int two) {
            int found = 0;
            for (int i = 0; i < count; i++) {
                found += (group[i] & two) == two ? 1 : 0;
            }
            return found;
        }

        int firstIn(int set) {
            for (int i = 0; i < count; i++) {
                if ((group[i] & set) == group[i]) {
                    return group[i];
                }
            }
            return 0;
        }

        int mostFrom(int set) {
            if (!isCounted) {
                countMost();
                isCounted = true;
            }
            return most[set & everybody()];
        }

        /** For every set: its least number stays, or rides with one of the groups it is in. */
        private void countMost() {
            most[0] = 0;
            for (int set = 1; set < 1 << people; set++) {
                int least = set & -set;
                int reached = most[set ^ least];
                for (int i = 0; i < count; i++) {
                    int g = group[i];
                    if ((g & least) != 0 && (g & set) == g && most[set ^ g] >= reached) {
                        reached = 1 + most[set ^ g];
                    }
                }
                most[set] = reached;
            }
        }

        int firstOfMost(int set) {
            int aim = mostFrom(set) - 1;
            for (int i = 0; i < count; i++) {
                int g = group[i];
                if ((g & set) == g && mostFrom(set ^ g) == aim) {
                    return g;
                }
            }
            return 0;
        }

        int mostRow(int set, int place) {
            int still = set;
            for (int i = 0; i < place && i < HEADS; i++) {
                still &= ~firstOfMost(still);
            }
            return firstOfMost(still);
        }

        int costTogether(int set) {
            int sum = 0;
            for (int p = 0; p < people; p++) {
                sum += (set >> p & 1) * cost[p];
            }
            return sum;
        }

        int strangersTogether(int set) {
            int sum = 0;
            for (int p = 0; p < people; p++) {
                sum += (set >> p & 1) * Integer.bitCount(strangers[p]);
            }
            return sum;
        }

        /** The two strangers that close most groups; NONE: there are no strangers. */
        int closest() {
            int two = NONE;
            int mostClosed = NONE;
            for (int p = 0; p < people; p++) {
                for (int q = p + 1; q < people; q++) {
                    if ((strangers[p] >> q & 1) != 0) {
                        int closed = countWith(1 << p | 1 << q);
                        if (closed > mostClosed) {
                            mostClosed = closed;
                            two = 10 * p + q;
                        }
                    }
                }
            }
            return two;
        }

        private static int pairBit(int p, int q) {
            return q * (q - 1) / 2 + p;
        }

        /** The strangers of a set, two by two, as bits. */
        private int pairsIn(int set) {
            int bits = 0;
            for (int q = 1; q < people; q++) {
                for (int p = 0; p < q; p++) {
                    if ((set >> p & set >> q & strangers[p] >> q & 1) != 0) {
                        bits |= 1 << pairBit(p, q);
                    }
                }
            }
            return bits;
        }

        /** Writes the pairs of each group of a set; tells how many groups. */
        private int listPairs(int set) {
            int found = 0;
            for (int i = 0; i < count; i++) {
                if ((group[i] & set) == group[i]) {
                    pairs[found] = pairsIn(group[i]);
                    found++;
                }
            }
            return found;
        }

        int longest() {
            if (seats == 2) {
                return count; // one coach uses up just one pair, so all pairs ride in any row
            }
            listPairs(everybody());
            best = 0;
            lengthen(pairsIn(everybody()), 0, 0);
            return best;
        }

        /** The order of a row doesn't matter for what it uses up, so groups are taken by places. */
        private void lengthen(int open, int from, int sent) {
            best = Math.max(best, sent);
            if (sent >= MOST_PAIRS) {
                return;
            }
            int each = seats * (seats - 1) / 2;
            for (int i = from; i < count; i++) {
                if ((best + 1 - sent) * each > Integer.bitCount(open)) {
                    return;
                }
                if ((pairs[i] & open) == pairs[i]) {
                    lengthen(open & ~pairs[i], i + 1, sent + 1);
                }
            }
        }

        int soonest() {
            if (seats == 2) {
                return count;
            }
            listPairs(everybody());
            best = MOST_PAIRS;
            finish(pairsIn(everybody()), 0, 0);
            return best;
        }

        /**
         * As long as a group is possible, one that shares a pair with it must still go: only these are tried,
         * and one that was tried is passed over in the rows tried later. Seven people have 35 groups at most,
         * so a long has a bit for each.
         */
        private void finish(int open, long passed, int sent) {
            int first = firstPossible(open);
            if (first == NONE) {
                best = Math.min(best, sent);
                return;
            }
            long tried = passed;
            for (int i = first; i < count && sent + 1 < best; i++) {
                boolean shares = (pairs[i] & pairs[first]) != 0;
                if (shares && (pairs[i] & open) == pairs[i] && (tried >> i & 1) == 0) {
                    finish(open & ~pairs[i], tried, sent + 1);
                    tried |= 1L << i;
                }
            }
        }

        private int firstPossible(int open) {
            for (int i = 0; i < count; i++) {
                if ((pairs[i] & open) == pairs[i]) {
                    return i;
                }
            }
            return NONE;
        }

        /** Ways in which no group is in a set, and for each pair in how many of them it is known. */
        int countWays(int set) {
            for (int k = 0; k < MOST_PAIRS; k++) {
                known[k] = 0;
            }
            int found = listPairs(set);
            int open = pairsIn(set);
            int tries = 1 << Integer.bitCount(open);
            int ways = 0;
            int secret = 0;
            for (int n = 0; n < tries; n++) {
                if (breaksAll(secret, found)) {
                    ways++;
                    tally(secret);
                }
                secret = secret - open & open; // the next of the subsets of open
            }
            return ways;
        }

        private boolean breaksAll(int secret, int found) {
            for (int i = 0; i < found; i++) {
                if ((pairs[i] & secret) == 0) {
                    return false;
                }
            }
            return true;
        }

        private void tally(int secret) {
            for (int k = 0; k < MOST_PAIRS; k++) {
                known[k] += secret >> k & 1;
            }
        }

        /** The two strangers of a set known in most ways; NONE: there are no strangers in it. */
        int surest(int set) {
            countWays(set);
            int open = pairsIn(set);
            int two = NONE;
            int mostKnown = NONE;
            for (int p = 0; p < people; p++) {
                for (int q = p + 1; q < people; q++) {
                    int k = pairBit(p, q);
                    if ((open >> k & 1) != 0 && known[k] > mostKnown) {
                        mostKnown = known[k];
                        two = 10 * p + q;
                    }
                }
            }
            return two;
        }
    }

    /** A day by a coachman, and the day with the least waiting; its rows are used again. */
    private static final class Day {
        /** Waiting counts so many times and each coach takes 1 off: the least has most coaches, too. */
        private static final int WEIGHT = 16;

        private final int[] coaches = new int[ROOM];
        private final int[] sentAt = new int[ROOM];
        private final int[] least = new int[1 << ROOM];
        private final int[] price = new int[Ties.MOST_GROUPS];
        int sent;
        int yard;
        private int leastPrice;

        void pass(Town town, Ties ties, Coachman man) {
            sent = 0;
            yard = 0;
            int toCome = town.people;
            for (int h = 0; h < HOURS; h++) {
                for (int p = 0; p < town.people; p++) {
                    if (town.hour[p] == h) {
                        yard |= 1 << p;
                        toCome--;
                        sendAll(ties, man, h, toCome);
                    }
                }
            }
        }

        private void sendAll(Ties ties, Coachman man, int h, int toCome) {
            for (int i = 0; i < ROOM && sent < ROOM; i++) {
                int group = man.pick(ties, yard, toCome);
                if (group == 0) {
                    return;
                }
                yard &= ~group;
                coaches[sent] = group;
                sentAt[sent] = h;
                sent++;
            }
        }

        int coachAt(int i) {
            return i >= 0 && i < sent ? coaches[i] : 0;
        }

        int waitingOf(Town town, int one) {
            int until = HOURS;
            for (int i = 0; i < sent; i++) {
                if ((coaches[i] >> one & 1) != 0) {
                    until = sentAt[i];
                }
            }
            return town.cost[one] * (until - town.hour[one]);
        }

        int waitingOfAll(Town town) {
            int sum = 0;
            for (int p = 0; p < town.people; p++) {
                sum += waitingOf(town, p);
            }
            return sum;
        }

        /** A group costs least if it goes behind the coming of its last; so only who rides with whom is open. */
        void findLeast(Town town, Ties ties) {
            for (int i = 0; i < ties.count; i++) {
                price[i] = WEIGHT * waitingTogether(town, ties.group[i]) - 1;
            }
            least[0] = 0;
            for (int set = 1; set <= town.everybody(); set++) {
                least[set] = cheapest(town, ties, set);
            }
            leastPrice = least[town.everybody()];
        }

        private int cheapest(Town town, Ties ties, int set) {
            int one = Integer.bitCount((set & -set) - 1);
            if (one >= town.people) {
                return 0;
            }
            int stays = WEIGHT * town.cost[one] * (HOURS - town.hour[one]);
            int found = least[set ^ 1 << one] + stays;
            for (int i = 0; i < ties.count; i++) {
                int g = ties.group[i];
                if ((g >> one & 1) != 0 && (g & set) == g) {
                    found = Math.min(found, least[set ^ g] + price[i]);
                }
            }
            return found;
        }

        private static int waitingTogether(Town town, int group) {
            int last = 0;
            for (int p = 0; p < town.people; p++) {
                if ((group >> p & 1) != 0) {
                    last = Math.max(last, town.hour[p]);
                }
            }
            int sum = 0;
            for (int p = 0; p < town.people; p++) {
                if ((group >> p & 1) != 0) {
                    sum += town.cost[p] * (last - town.hour[p]);
                }
            }
            return sum;
        }

        int leastWaiting() {
            return (leastPrice + WEIGHT - 1) / WEIGHT;
        }

        int leastCoaches() {
            return leastWaiting() * WEIGHT - leastPrice;
        }
    }

    /** The kind above all others: he sends none. */
    private abstract static class Coachman {
        private final int a;

        Coachman(int a) {
            this.a = a;
        }

        abstract int kind();

        /** The group he sends with these in the yard and so many to come; 0: none. */
        int pick(Ties ties, int yard, int toCome) {
            return 0;
        }

        int number() {
            return a;
        }

        boolean isOf(int kind) {
            switch (kind) {
                case 0:
                    return true;
                case 1:
                    return this instanceof First;
                case 2:
                    return this instanceof Choose;
                default:
                    return kind() == kind;
            }
        }
    }

    private static class First extends Coachman {
        First(int a) {
            super(a);
        }

        int kind() {
            return 1;
        }

        int pick(Ties ties, int yard, int toCome) {
            return ties.firstIn(yard);
        }
    }

    private static final class Waits extends First {
        Waits(int a) {
            super(a);
        }

        int kind() {
            return 3;
        }

        int pick(Ties ties, int yard, int toCome) {
            boolean goes = toCome == 0 || Integer.bitCount(yard) >= number();
            return goes ? ties.firstIn(yard) : 0;
        }
    }

    /** Sends the group of the greatest worth, of several the first. */
    private static class Choose extends Coachman {
        Choose(int a) {
            super(a);
        }

        int kind() {
            return 2;
        }

        int worth(Ties ties, int yard, int group) {
            return ties.costTogether(group);
        }

        int pick(Ties ties, int yard, int toCome) {
            int chosen = 0;
            int greatest = 0;
            for (int i = 0; i < ties.count; i++) {
                int g = ties.group[i];
                if ((g & yard) == g) {
                    int w = worth(ties, yard, g);
                    if (chosen == 0 || w > greatest) {
                        chosen = g;
                        greatest = w;
                    }
                }
            }
            return chosen;
        }
    }

    private static final class Spares extends Choose {
        Spares(int a) {
            super(a);
        }

        int kind() {
            return 4;
        }

        int worth(Ties ties, int yard, int group) {
            return -ties.strangersTogether(group);
        }
    }

    /** No group leaves more behind than the most of the yard less one, so the greatest is that. */
    private static final class Best extends Choose {
        Best(int a) {
            super(a);
        }

        int kind() {
            return 5;
        }

        int worth(Ties ties, int yard, int group) {
            return ties.mostFrom(yard & ~group);
        }
    }

    /** Holds nothing, a row or a coachman; the row's room is made once and used again. */
    private static final class Shelf {
        final long[] items = new long[LONGEST_ROW];
        int sort = NONE;
        int size;
        Coachman man;

        boolean isRow() {
            return sort != NONE;
        }

        void takeRow(int newSort, int newSize) {
            man = null;
            sort = newSort;
            size = newSize;
            for (int i = 0; i < LONGEST_ROW; i++) {
                items[i] = 0;
            }
        }

        void takeMan(Coachman newMan) {
            man = newMan;
            sort = NONE;
            size = 0;
        }

        void put(int i, long v) {
            if (i >= 0 && i < size) {
                items[i] = cut(v);
            }
        }

        private long cut(long v) {
            switch (sort) {
                case 0:
                    return (byte) v;
                case 1:
                    return (short) v;
                case 2:
                    return (int) v;
                case 4:
                    return v != 0 ? 1 : 0;
                default:
                    return v;
            }
        }
    }

    /** Keeps the tape and reads a town from it, token by token. */
    private static final class Scribe {
        private static final int LONGEST_TAPE = 250;
        private static final int END = 0;
        private static final int WORD = 1;
        private static final int NUMBER = 2;
        private static final int SIGN = 3;
        private static final int NO_TOKEN = 4;

        private final int[] tape = new int[LONGEST_TAPE];
        int size;
        private int token;
        private int start;
        private int end;
        int fault;

        boolean isFull() {
            return size >= LONGEST_TAPE;
        }

        void append(int letter) {
            if (size < LONGEST_TAPE) {
                tape[size] = letter;
                size++;
            }
        }

        void clear() {
            size = 0;
        }

        /** How many statements were read into a town; NONE: there is a fault. */
        int read(Town into) {
            end = 0;
            advance();
            for (int n = 1; n <= LONGEST_TAPE; n++) {
                if (!readStatement(into)) {
                    return NONE;
                }
                if (token == END) {
                    return n;
                }
                if (token != SIGN) {
                    fail();
                    return NONE;
                }
                advance();
            }
            return NONE;
        }

        private boolean fail() {
            fault = start;
            return false;
        }

        private void advance() {
            start = end;
            while (start < size && tape[start] == ' ') {
                start++;
            }
            token = start < size ? tokenOf(tape[start]) : END;
            end = token == END ? size : start + 1;
            while ((token == WORD || token == NUMBER) && end < size && tokenOf(tape[end]) == token) {
                end++;
            }
        }

        private static int tokenOf(int letter) {
            if (letter >= 'a' && letter <= 'z') {
                return WORD;
            }
            if (letter >= '0' && letter <= '9') {
                return NUMBER;
            }
            return letter == ';' ? SIGN : NO_TOKEN;
        }

        private boolean isWord(String word) {
            if (token != WORD || end - start != word.length()) {
                return false;
            }
            for (int i = 0; i < word.length() && start + i < size; i++) {
                if (tape[start + i] != word.charAt(i)) {
                    return false;
                }
            }
            return true;
        }

        /** A number up to one that is none of those taken, and on to the next token; NONE: a fault. */
        private int readNumber(int least, int greatest, int taken) {
            if (token != NUMBER || end - start > 2 || end > size) {
                fail();
                return NONE;
            }
            int value = 0;
            for (int i = start; i < end; i++) {
                value = 10 * value + tape[i] - '0';
            }
            if (value < least || value > greatest || taken != 0 && (taken >> value & 1) != 0) {
                fail();
                return NONE;
            }
            advance();
            return value;
        }

        private boolean readStatement(Town into) {
            if (isWord("person")) {
                return readPerson(into);
            }
            if (isWord("know")) {
                return readPair(into, true);
            }
            if (isWord("strange")) {
                return readPair(into, false);
            }
            if (isWord("seats")) {
                return readSeats(into);
            }
            if (isWord("memory")) {
                return readMemory(into);
            }
            return isWord("met") ? readMet(into) : fail();
        }

        private boolean readPerson(Town into) {
            if (into.people >= ROOM) {
                return fail();
            }
            advance();
            int comes = readNumber(0, HOURS - 1, 0);
            if (comes == NONE) {
                return false;
            }
            int costs = readNumber(0, COSTS - 1, 0);
            if (costs == NONE) {
                return false;
            }
            into.add(comes, costs);
            return true;
        }

        private boolean readPair(Town into, boolean areKnown) {
            advance();
            int one = readNumber(0, into.people - 1, 0);
            if (one == NONE) {
                return false;
            }
            int other = readNumber(0, into.people - 1, 1 << one);
            if (other == NONE) {
                return false;
            }
            int span = areKnown ? 0 : NONE;
            if (areKnown && isWord("since")) {
                advance();
                span = readNumber(0, OLDEST, 0);
                if (span == NONE) {
                    return false;
                }
            }
            into.tie(one, other, span);
            return true;
        }

        private boolean readSeats(Town into) {
            advance();
            int n = readNumber(FEWEST_SEATS, MOST_SEATS, 0);
            if (n == NONE) {
                return false;
            }
            into.seats = n;
            return true;
        }

        private boolean readMemory(Town into) {
            advance();
            int n = readNumber(0, OLDEST, 0);
            if (n == NONE) {
                return false;
            }
            into.memory = n;
            return true;
        }

        private boolean readMet(Town into) {
            advance();
            int all = 0;
            for (int n = 0; n <= ROOM && (n == 0 || token == NUMBER); n++) {
                int one = readNumber(0, into.people - 1, all);
                if (one == NONE) {
                    return false;
                }
                all |= 1 << one;
            }
            into.acquaint(all);
            return true;
        }
    }
}
