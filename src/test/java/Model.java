import java.util.ArrayList;
import java.util.Comparator;
import java.util.HashMap;
import java.util.LinkedHashSet;
import java.util.List;
import java.util.Map;
import java.util.Set;
import java.util.TreeSet;

/**
 * The document a second time, written as plainly as can be and by other ways than the program: groups as lists of
 * numbers, all ways tried one by one. AgainstModelTest holds the program to it.
 */
final class Model {
    private static final int NONE = -1;

    /** An answer that is a refusal. */
    private static final class Refused extends RuntimeException {
        private static final long serialVersionUID = 1L;
        final int number;

        Refused(int number) {
            super(null, null, false, false);
            this.number = number;
        }
    }

    /** A fault of the tape. */
    private static final class Fault extends Exception {
        private static final long serialVersionUID = 1L;
        final int place;

        Fault(int place) {
            super(null, null, false, false);
            this.place = place;
        }
    }

    interface Answer {
        long get();
    }

    static final class World {
        List<int[]> people = new ArrayList<>();
        Map<Set<Integer>, Integer> known = new HashMap<>();
        int seats = 3;
        int memory;
        int seed = 1;
        int coaches;
        int days;
        int years;

        World twin() {
            World w = new World();
            for (int[] p : people) {
                w.people.add(p.clone());
            }
            w.known.putAll(known);
            w.seats = seats;
            w.memory = memory;
            w.seed = seed;
            w.coaches = coaches;
            w.days = days;
            w.years = years;
            return w;
        }

        boolean strangers(int p, int q) {
            return p != q && !known.containsKey(Set.of(p, q));
        }

        int meet(Set<Integer> all) {
            int were = 0;
            for (int p : all) {
                for (int q : all) {
                    if (p < q) {
                        were += strangers(p, q) ? 1 : 0;
                        known.put(Set.of(p, q), 0);
                    }
                }
            }
            return were;
        }

        /** All groups of a set in their order. */
        List<Set<Integer>> groups(Set<Integer> set) {
            List<Set<Integer>> found = new ArrayList<>();
            for (int bits = 0; bits < 256; bits++) {
                Set<Integer> g = setOf(bits);
                if (set.containsAll(g) && isGroup(g)) {
                    found.add(g);
                }
            }
            found.sort(ORDER);
            return found;
        }

        boolean isGroup(Set<Integer> g) {
            if (g.size() != seats) {
                return false;
            }
            for (int p : g) {
                for (int q : g) {
                    if (p != q && !strangers(p, q)) {
                        return false;
                    }
                }
            }
            return true;
        }

        Set<Integer> all() {
            return setOf((1 << people.size()) - 1);
        }

        int most(Set<Integer> set) {
            int best = 0;
            for (Set<Integer> g : groups(set)) {
                best = Math.max(best, 1 + most(without(set, g)));
            }
            return best;
        }
    }

    private static final Comparator<Set<Integer>> ORDER = (a, b) -> {
        List<Integer> x = new ArrayList<>(a);
        List<Integer> y = new ArrayList<>(b);
        for (int i = 0; i < Math.min(x.size(), y.size()); i++) {
            if (!x.get(i).equals(y.get(i))) {
                return Integer.compare(x.get(i), y.get(i));
            }
        }
        return Integer.compare(x.size(), y.size());
    };

    static Set<Integer> setOf(int bits) {
        Set<Integer> s = new TreeSet<>();
        for (int p = 0; p < 32; p++) {
            if ((bits >>> p & 1) != 0) {
                s.add(p);
            }
        }
        return s;
    }

    static int bitsOf(Set<Integer> set) {
        int bits = 0;
        for (int p : set) {
            bits += 1 << p;
        }
        return bits;
    }

    static Set<Integer> without(Set<Integer> set, Set<Integer> less) {
        Set<Integer> s = new TreeSet<>(set);
        s.removeAll(less);
        return s;
    }

    World w = new World();
    private World kept;
    private final Object[] shelves = new Object[8];
    private final StringBuilder tape = new StringBuilder();
    private final int[] refusals = new int[7];

    private static final class Row {
        int sort;
        long[] items;
    }

    private static final class Man {
        int kind;
        int a;
    }

    /** A day that was run. */
    private static final class Ran {
        final List<Set<Integer>> coaches = new ArrayList<>();
        final List<Integer> hours = new ArrayList<>();
        Set<Integer> left = new TreeSet<>();

        int waits(World w, int p) {
            int end = 24;
            for (int i = 0; i < coaches.size(); i++) {
                if (coaches.get(i).contains(p)) {
                    end = hours.get(i);
                }
            }
            return w.people.get(p)[1] * (end - w.people.get(p)[0]);
        }

        int waits(World w) {
            int sum = 0;
            for (int p = 0; p < w.people.size(); p++) {
                sum += waits(w, p);
            }
            return sum;
        }
    }

    // ---- refusals

    private long answer(Answer a) {
        try {
            return a.get();
        } catch (Refused r) {
            refusals[-r.number]++;
            return r.number;
        }
    }

    private static void need(boolean so, int number) {
        if (!so) {
            throw new Refused(number);
        }
    }

    private static void in(long v, long low, long high) {
        need(v >= low && v <= high, -2);
    }

    private void shelf(int s) {
        in(s, 0, 7);
    }

    private Row rowIn(int s) {
        shelf(s);
        need(!(shelves[s] instanceof Man), -3);
        need(shelves[s] != null, -4);
        return (Row) shelves[s];
    }

    private Man manIn(int s) {
        shelf(s);
        need(!(shelves[s] instanceof Row), -3);
        need(shelves[s] != null, -4);
        return (Man) shelves[s];
    }

    private void one(int p) {
        in(p, 0, w.people.size() - 1);
    }

    private void two(int p, int q) {
        one(p);
        one(q);
        need(p != q, -2);
    }

    private Set<Integer> set(int bits) {
        in(bits, 0, (1 << w.people.size()) - 1);
        return setOf(bits);
    }

    // ---- calls

    long row(int s, int sort, int n) {
        return answer(() -> {
            shelf(s);
            in(sort, 0, 4);
            in(n, 0, 40);
            Row r = new Row();
            r.sort = sort;
            r.items = new long[n];
            shelves[s] = r;
            return 1;
        });
    }

    long set(int s, int i, long v) {
        return answer(() -> {
            Row r = rowIn(s);
            in(i, 0, r.items.length - 1);
            int[] bits = {8, 16, 32, 64};
            r.items[i] = r.sort == 4 ? Math.abs(Long.signum(v)) : v << 64 - bits[r.sort] >> 64 - bits[r.sort];
            return 1;
        });
    }

    long copy(int p, int q, int i, int j, int n) {
        return answer(() -> {
            shelf(p);
            shelf(q);
            need(!(shelves[p] instanceof Man) && !(shelves[q] instanceof Man), -3);
            if (shelves[p] instanceof Row a && shelves[q] instanceof Row b) {
                need(a.sort == b.sort, -3);
            }
            Row from = rowIn(p);
            Row to = rowIn(q);
            in(n, 0, 40);
            in(i, 0, 40);
            in(j, 0, 40);
            in(i + n, 0, from.items.length);
            in(j + n, 0, to.items.length);
            long[] were = from.items.clone();
            for (int k = 0; k < n; k++) {
                to.items[j + k] = were[i + k];
            }
            return n;
        });
    }

    long element(int s, int i) {
        boolean isRow = s >= 0 && s < 8 && shelves[s] instanceof Row;
        return isRow && i >= 0 && i < ((Row) shelves[s]).items.length ? ((Row) shelves[s]).items[i] : 0;
    }

    long holds(int s) {
        if (s < 0 || s > 7 || shelves[s] == null) {
            return NONE;
        }
        return shelves[s] instanceof Row r ? r.sort : 10 + ((Man) shelves[s]).kind;
    }

    long coachman(int s, int kind, int a) {
        return answer(() -> {
            shelf(s);
            in(kind, 1, 5);
            in(a, 0, 9);
            Man m = new Man();
            m.kind = kind;
            m.a = a;
            shelves[s] = m;
            return 1;
        });
    }

    long says(int s, int kind) {
        return answer(() -> {
            shelf(s);
            in(kind, 0, 5);
            if (shelves[s] instanceof Man m) {
                int[] under = {0, 0, 0, 1, 2, 2};
                need(kind == 0 || m.kind == kind || under[m.kind] == kind, -3);
            }
            Man m = manIn(s);
            return kind == 0 ? m.a : bitsOf(send(w, m, w.all(), 0));
        });
    }

    long person(int hour, int cost) {
        return answer(() -> {
            in(hour, 0, 23);
            in(cost, 0, 9);
            need(w.people.size() < 7, -6);
            w.people.add(new int[] {hour, cost});
            return w.people.size() - 1;
        });
    }

    long change(int p, int what, int v) {
        return answer(() -> {
            one(p);
            in(what, 0, 1);
            in(v, 0, what == 0 ? 23 : 9);
            int was = w.people.get(p)[what];
            w.people.get(p)[what] = v;
            return was;
        });
    }

    long know(int p, int q, int years) {
        return answer(() -> {
            two(p, q);
            in(years, -1, 99);
            Integer was = years == NONE ? w.known.remove(Set.of(p, q)) : w.known.put(Set.of(p, q), years);
            return was == null ? NONE : was;
        });
    }

    long ask(int what, int v) {
        return answer(() -> {
            in(what, 0, 1);
            in(v, what == 0 ? 2 : 0, what == 0 ? 4 : 99);
            int was = what == 0 ? w.seats : w.memory;
            w.seats = what == 0 ? v : w.seats;
            w.memory = what == 1 ? v : w.memory;
            return was;
        });
    }

    long feed(int letter) {
        return answer(() -> {
            in(letter, 0, 255);
            need(tape.length() < 250, -6);
            tape.append((char) letter);
            return tape.length();
        });
    }

    long wipe() {
        int was = tape.length();
        tape.setLength(0);
        return was;
    }

    // ---- the tape

    private List<String> tokens;
    private List<Integer> places;
    private int at;

    private void split(String text) {
        tokens = new ArrayList<>();
        places = new ArrayList<>();
        java.util.regex.Matcher m = java.util.regex.Pattern.compile("[a-z]+|[0-9]+|;|[^ ]", java.util.regex.Pattern.DOTALL).matcher(text);
        while (m.find()) {
            tokens.add(m.group());
            places.add(m.start());
        }
        tokens.add("");
        places.add(text.length());
        at = 0;
    }

    private void wrong() throws Fault {
        throw new Fault(places.get(at));
    }

    private int number(int low, int high, Set<Integer> told) throws Fault {
        if (!tokens.get(at).matches("[0-9]{1,2}")) {
            wrong();
        }
        int v = Integer.parseInt(tokens.get(at));
        if (v < low || v > high || told.contains(v)) {
            wrong();
        }
        at++;
        return v;
    }

    private void statement(World t) throws Fault {
        String word = tokens.get(at);
        if (!List.of("person", "know", "strange", "seats", "memory", "met").contains(word)) {
            wrong();
        }
        if (word.equals("person") && t.people.size() == 7) {
            wrong();
        }
        at++;
        int last = t.people.size() - 1;
        switch (word) {
            case "person" -> t.people.add(new int[] {number(0, 23, Set.of()), number(0, 9, Set.of())});
            case "seats" -> t.seats = number(2, 4, Set.of());
            case "memory" -> t.memory = number(0, 99, Set.of());
            case "met" -> {
                Set<Integer> all = new LinkedHashSet<>();
                do {
                    all.add(number(0, last, all));
                } while (tokens.get(at).matches("[0-9]+"));
                t.meet(all);
            }
            default -> {
                int p = number(0, last, Set.of());
                int q = number(0, last, Set.of(p));
                t.known.remove(Set.of(p, q));
                if (word.equals("know")) {
                    int years = 0;
                    if (tokens.get(at).equals("since")) {
                        at++;
                        years = number(0, 99, Set.of());
                    }
                    t.known.put(Set.of(p, q), years);
                }
            }
        }
    }

    long town() {
        String text = tape.toString();
        tape.setLength(0);
        split(text);
        World t = w.twin();
        try {
            int n = 0;
            while (true) {
                statement(t);
                n++;
                if (tokens.get(at).isEmpty()) {
                    w = t;
                    return n;
                }
                if (!tokens.get(at).equals(";")) {
                    wrong();
                }
                at++;
            }
        } catch (Fault f) {
            refusals[2]++;
            return -20 - f.place;
        }
    }

    long personOf(int p, int what) {
        return answer(() -> {
            one(p);
            in(what, 0, 3);
            Set<Integer> s = new TreeSet<>();
            for (int q : w.all()) {
                if (w.strangers(p, q)) {
                    s.add(q);
                }
            }
            return what < 2 ? w.people.get(p)[what] : what == 2 ? bitsOf(s) : s.size();
        });
    }

    long knownOf(int p, int q) {
        return answer(() -> {
            two(p, q);
            return w.known.getOrDefault(Set.of(p, q), NONE);
        });
    }

    // ---- groups and days

    long isGroup(int set) {
        return answer(() -> w.isGroup(set(set)) ? 1 : 0);
    }

    long groups(int set) {
        return answer(() -> w.groups(set(set)).size());
    }

    long firstOf(int set) {
        return answer(() -> {
            List<Set<Integer>> g = w.groups(set(set));
            return g.isEmpty() ? 0 : bitsOf(g.get(0));
        });
    }

    long most(int set) {
        return answer(() -> w.most(set(set)));
    }

    /** The first row of so many groups with nobody in two; null: there is none. */
    private List<Set<Integer>> firstRow(World t, Set<Integer> set, int n) {
        if (n == 0) {
            return new ArrayList<>();
        }
        for (Set<Integer> g : t.groups(set)) {
            List<Set<Integer>> rest = firstRow(t, without(set, g), n - 1);
            if (rest != null) {
                rest.add(0, g);
                return rest;
            }
        }
        return null;
    }

    long mostOf(int bits, int i) {
        return answer(() -> {
            Set<Integer> set = set(bits);
            need(i >= 0, -2);
            int n = w.most(set);
            need(i < n, -5);
            return bitsOf(firstRow(w, set, n).get(i));
        });
    }

    private Set<Integer> send(World t, Man m, Set<Integer> yard, int toCome) {
        List<Set<Integer>> g = t.groups(yard);
        if (g.isEmpty() || m.kind == 3 && yard.size() < m.a && toCome > 0) {
            return Set.of();
        }
        if (m.kind == 1 || m.kind == 3) {
            return g.get(0);
        }
        if (m.kind == 5) {
            int n = t.most(yard);
            g.removeIf(x -> t.most(without(yard, x)) != n - 1);
            return g.get(0);
        }
        Comparator<Set<Integer>> byCost = Comparator.comparing(x -> -x.stream().mapToInt(p -> t.people.get(p)[1]).sum());
        Comparator<Set<Integer>> byStrangers = Comparator.comparing(
            x -> x.stream().mapToLong(p -> t.all().stream().filter(q -> t.strangers(p, q)).count()).sum());
        g.sort(m.kind == 2 ? byCost : byStrangers); // a stable sort: the first stays first
        return g.get(0);
    }

    long sends(int s, int set, int n) {
        return answer(() -> {
            Set<Integer> yard = set(set);
            in(n, 0, 7);
            return bitsOf(send(w, manIn(s), yard, n));
        });
    }

    private List<Integer> comings(World t) {
        List<Integer> order = new ArrayList<>(t.all());
        order.sort(Comparator.comparing(p -> t.people.get(p)[0]));
        return order;
    }

    private Ran pass(World t, Man m) {
        Ran d = new Ran();
        List<Integer> order = comings(t);
        for (int i = 0; i < order.size(); i++) {
            d.left.add(order.get(i));
            Set<Integer> g = send(t, m, d.left, order.size() - 1 - i);
            while (!g.isEmpty()) {
                d.coaches.add(g);
                d.hours.add(t.people.get(order.get(i))[0]);
                d.left = without(d.left, g);
                g = send(t, m, d.left, order.size() - 1 - i);
            }
        }
        return d;
    }

    long run(int s) {
        return answer(() -> pass(w, manIn(s)).coaches.size());
    }

    long coach(int s, int i) {
        return answer(() -> {
            need(i >= 0, -2);
            Ran d = pass(w, manIn(s));
            need(i < d.coaches.size(), -5);
            return bitsOf(d.coaches.get(i));
        });
    }

    long left(int s) {
        return answer(() -> bitsOf(pass(w, manIn(s)).left));
    }

    long waits(int s, int p) {
        return answer(() -> {
            if (p != NONE) {
                one(p);
            }
            Ran d = pass(w, manIn(s));
            return p == NONE ? d.waits(w) : d.waits(w, p);
        });
    }

    /** All ways to send groups behind comings; the best waiting, and with it the most coaches. */
    private void ways(List<Integer> order, int i, Ran d, int[] best) {
        if (i == order.size()) {
            int waiting = d.waits(w);
            if (waiting < best[0] || waiting == best[0] && d.coaches.size() > best[1]) {
                best[0] = waiting;
                best[1] = d.coaches.size();
            }
            return;
        }
        d.left.add(order.get(i));
        sendSome(order, i, d, best);
        d.left = without(d.left, Set.of(order.get(i)));
    }

    private void sendSome(List<Integer> order, int i, Ran d, int[] best) {
        Set<Integer> yard = new TreeSet<>(d.left);
        ways(order, i + 1, d, best);
        d.left = new TreeSet<>(yard);
        for (Set<Integer> g : w.groups(yard)) {
            d.coaches.add(g);
            d.hours.add(w.people.get(order.get(i))[0]);
            d.left = without(yard, g);
            sendSome(order, i, d, best);
            d.coaches.remove(d.coaches.size() - 1);
            d.hours.remove(d.hours.size() - 1);
            d.left = new TreeSet<>(yard);
        }
    }

    long least(int what) {
        return answer(() -> {
            in(what, 0, 1);
            int[] best = {Integer.MAX_VALUE, 0};
            ways(comings(w), 0, new Ran(), best);
            return best[what];
        });
    }

    long head() {
        return answer(() -> {
            int head = NONE;
            for (int s = 7; s >= 0; s--) {
                if (shelves[s] instanceof Man m) {
                    if (head == NONE || pass(w, m).waits(w) <= pass(w, (Man) shelves[head]).waits(w)) {
                        head = s;
                    }
                }
            }
            need(head != NONE, -5);
            return head;
        });
    }

    // ---- what comes of it

    long days(int s) {
        return answer(() -> {
            Man m = manIn(s);
            World t = w.twin();
            int n = 0;
            while (n < 30) {
                Ran d = pass(t, m);
                if (d.coaches.isEmpty()) {
                    break;
                }
                d.coaches.forEach(t::meet);
                n++;
            }
            return n;
        });
    }

    /** Longest and soonest of a world, by all rows; worlds that were seen are remembered. */
    private static int[] ever(World t, Map<Set<Set<Integer>>, int[]> seen) {
        int[] told = seen.get(t.known.keySet());
        if (told == null) {
            told = new int[] {0, Integer.MAX_VALUE};
            for (Set<Integer> g : t.groups(t.all())) {
                World next = t.twin();
                next.meet(g);
                int[] then = ever(next, seen);
                told[0] = Math.max(told[0], 1 + then[0]);
                told[1] = Math.min(told[1], 1 + then[1]);
            }
            told[1] = told[1] == Integer.MAX_VALUE ? 0 : told[1];
            seen.put(new java.util.HashSet<>(t.known.keySet()), told);
        }
        return told;
    }

    long ever(int what) {
        return answer(() -> {
            in(what, 0, 1);
            return ever(w, new HashMap<>())[what];
        });
    }

    long hire() {
        World t = w.twin();
        t.people.add(new int[] {0, 0});
        return t.most(t.all()) - w.most(w.all());
    }

    long feast(int bits) {
        return answer(() -> {
            World t = w.twin();
            t.meet(set(bits));
            Map<Set<Set<Integer>>, int[]> seen = new HashMap<>();
            return ever(w, seen)[0] - ever(t, seen)[0];
        });
    }

    private int closing(int p, int q) {
        World t = w.twin();
        t.known.put(Set.of(p, q), 0);
        return w.groups(w.all()).size() - t.groups(t.all()).size();
    }

    long closes(int p, int q) {
        return answer(() -> {
            two(p, q);
            return closing(p, q);
        });
    }

    long worst() {
        return answer(() -> {
            int found = NONE;
            for (int pq = 66; pq >= 0; pq--) {
                int p = pq / 10;
                int q = pq % 10;
                if (p < q && q < w.people.size() && w.strangers(p, q)
                    && (found == NONE || closing(p, q) >= closing(found / 10, found % 10))) {
                    found = pq;
                }
            }
            need(found != NONE, -5);
            return found;
        });
    }

    /** All worlds in which strangers of a set are known in secret and no group is in it. */
    private List<World> secrets(Set<Integer> set) {
        List<World> worlds = new ArrayList<>();
        worlds.add(w);
        for (int p : set) {
            for (int q : set) {
                if (p < q && w.strangers(p, q)) {
                    for (World t : new ArrayList<>(worlds)) {
                        World u = t.twin();
                        u.known.put(Set.of(p, q), 0);
                        worlds.add(u);
                    }
                }
            }
        }
        worlds.removeIf(t -> !t.groups(set).isEmpty());
        return worlds;
    }

    long fits(int bits) {
        return answer(() -> {
            Set<Integer> set = set(bits);
            in(set.size(), 0, 5);
            return secrets(set).size();
        });
    }

    long sure(int bits) {
        return answer(() -> {
            Set<Integer> set = set(bits);
            in(set.size(), 0, 5);
            List<World> worlds = secrets(set);
            int found = NONE;
            long most = -1;
            for (int p : set) {
                for (int q : set) {
                    if (p < q && w.strangers(p, q)) {
                        long n = worlds.stream().filter(t -> !t.strangers(p, q)).count();
                        if (n > most) {
                            most = n;
                            found = 10 * p + q;
                        }
                    }
                }
            }
            need(found != NONE, -5);
            return found;
        });
    }

    // ---- told days

    private Row toldRow(int s, int n) {
        shelf(s);
        in(n, 0, 7);
        Row r = rowIn(s);
        in(n, 0, r.items.length);
        return r;
    }

    private int wrongOf(Row r, int n) {
        Set<Integer> rode = new TreeSet<>();
        for (int i = 0; i < n; i++) {
            boolean isSet = r.items[i] >= 0 && r.items[i] < 1L << w.people.size();
            Set<Integer> g = isSet ? setOf((int) r.items[i]) : Set.of();
            if (!w.isGroup(g) || g.stream().anyMatch(rode::contains)) {
                return i;
            }
            rode.addAll(g);
        }
        return NONE;
    }

    long judge(int s, int n) {
        return answer(() -> wrongOf(toldRow(s, n), n));
    }

    long behind(int s, int n, int what) {
        return answer(() -> {
            in(what, 0, 1);
            Row r = toldRow(s, n);
            need(wrongOf(r, n) == NONE, -5);
            World t = w.twin();
            Set<Integer> stay = t.all();
            for (int i = 0; i < n; i++) {
                stay = without(stay, setOf((int) r.items[i]));
                t.meet(setOf((int) r.items[i]));
            }
            return what == 0 ? bitsOf(stay) : t.groups(t.all()).size();
        });
    }

    long rides(int s, int n) {
        return answer(() -> {
            Row r = toldRow(s, n);
            need(wrongOf(r, n) == NONE, -5);
            for (int i = 0; i < n; i++) {
                w.meet(setOf((int) r.items[i]));
            }
            w.coaches += n;
            w.days++;
            return n;
        });
    }

    // ---- in truth

    long day(int s) {
        return answer(() -> {
            Ran d = pass(w, manIn(s));
            d.coaches.forEach(w::meet);
            w.coaches += d.coaches.size();
            w.days++;
            return d.coaches.size();
        });
    }

    long meet(int bits) {
        return answer(() -> w.meet(set(bits)));
    }

    long year() {
        w.years++;
        w.known.replaceAll((pair, years) -> Math.min(99, years + 1));
        int were = w.known.size();
        w.known.values().removeIf(years -> w.memory != 0 && years > w.memory);
        return were - w.known.size();
    }

    private int draw(int n) {
        w.seed = (int) ((w.seed & 0xFFFFFFFFL) * 1103515245L + 12345L);
        return (int) ((w.seed & 0xFFFFFFFFL) / 65536 % n);
    }

    long come(int n) {
        return answer(() -> {
            in(n, 1, 7);
            int came = 0;
            while (came < n && w.people.size() < 7) {
                w.people.add(new int[] {draw(24), draw(10)});
                for (int q = 0; q < w.people.size() - 1; q++) {
                    if (draw(3) == 0) {
                        w.known.put(Set.of(q, w.people.size() - 1), 0);
                    }
                }
                came++;
            }
            return came;
        });
    }

    long seed(int v) {
        int was = w.seed;
        w.seed = v;
        return was;
    }

    long image() {
        kept = w.twin();
        return 1;
    }

    long back() {
        return answer(() -> {
            need(kept != null, -5);
            w = kept.twin();
            return 1;
        });
    }

    long status(int what) {
        if (what >= 12 && what <= 16) {
            return refusals[what - 10];
        }
        int n = w.people.size();
        int held = 0;
        for (Object s : shelves) {
            held += s == null ? 0 : 1;
        }
        int[] told = {n, w.seats, w.memory, n * (n - 1) / 2 - w.known.size(), w.coaches, w.days, w.years, tape.length(), w.seed, held};
        return what >= 0 && what < 10 ? told[what] : NONE;
    }
}
