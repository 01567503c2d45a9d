import java.util.ArrayList;
import java.util.Arrays;
import java.util.HashSet;
import java.util.List;
import java.util.Set;
import java.util.TreeMap;
import java.util.TreeSet;

/** The document said again, slowly and with the Java library: every set is weighed, nothing is kept. */
final class Model {
    private static final int NONE = -1;

    static final class T {
        int columns, page, changes;
        List<int[]> rows = new ArrayList<>();
        int counted;
        int[] unlike = new int[4], least = new int[4], greatest = new int[4];

        boolean has(int c) { return 0 <= c && c < columns; }
        boolean bits(int b) { return 0 <= b && b < (1 << columns); }
        int pages() { return up(counted, page); }
    }

    static final class Q {
        T t;
        int wants, adds, weight;
        TreeMap<Integer, int[]> tests = new TreeMap<>();
    }

    static final class A {
        T t;
        int number, kind, further, partColumn, from, to, set, sum;
        List<Integer> by = new ArrayList<>();
        boolean built;
    }

    private final T[] tables = new T[4];
    private final List<Q> questions = new ArrayList<>();
    private final List<A> aids = new ArrayList<>();

    private static int up(long n, long d) { return (int) Math.ceil((double) n / d); }
    private static boolean value(int v) { return 0 <= v && v <= 999; }
    private T t(int t) { return t < 0 || t > 3 ? null : tables[t]; }
    private Q q(int q) { return q < 0 || q >= questions.size() ? null : questions.get(q); }
    private A a(int a) { return a < 0 || a >= aids.size() ? null : aids.get(a); }

    boolean table(int t, int columns, int page) {
        if (t < 0 || t > 3 || tables[t] != null || columns < 1 || columns > 4 || page < 2 || page > 8) return false;
        tables[t] = new T();
        tables[t].columns = columns;
        tables[t].page = page;
        return true;
    }

    int put(int t, int... v) {
        T x = t(t);
        if (x == null || x.rows.size() == 60) return NONE;
        int[] row = new int[x.columns];
        for (int c = 0; c < x.columns; c++) {
            if (!value(v[c])) return NONE;
            row[c] = v[c];
        }
        x.rows.add(row);
        return x.rows.size() - 1;
    }

    boolean strike(int t, int r) {
        T x = t(t);
        if (x == null || r < 0 || r >= x.rows.size()) return false;
        x.rows.remove(r);
        return true;
    }

    int recount(int t) {
        T x = t(t);
        if (x == null) return NONE;
        x.counted = x.rows.size();
        for (int c = 0; c < x.columns; c++) {
            TreeSet<Integer> seen = new TreeSet<>();
            for (int[] row : x.rows) seen.add(row[c]);
            x.unlike[c] = seen.size();
            x.least[c] = seen.isEmpty() ? 0 : seen.first();
            x.greatest[c] = seen.isEmpty() ? 0 : seen.last();
        }
        return x.counted;
    }

    int counts(int t, int c, int what) {
        T x = t(t);
        if (x == null) return NONE;
        if (what == 0) return x.counted;
        if (what == 1) return x.pages();
        if (what == 5) return x.rows.size();
        if (!x.has(c)) return NONE;
        return what == 2 ? x.unlike[c] : what == 3 ? x.least[c] : what == 4 ? x.greatest[c] : NONE;
    }

    boolean changes(int t, int n) {
        T x = t(t);
        if (x == null || n < 0 || n > 1000) return false;
        x.changes = n;
        return true;
    }

    int question(int t, int wants, int adds, int weight) {
        T x = t(t);
        if (x == null || !x.bits(wants) || adds != NONE && !x.has(adds)) return NONE;
        if (weight < 1 || weight > 100 || questions.size() == 24) return NONE;
        Q q = new Q();
        q.t = x;
        q.wants = wants;
        q.adds = adds;
        q.weight = weight;
        questions.add(q);
        return questions.size() - 1;
    }

    boolean test(int q, int c, int from, int to) {
        Q x = q(q);
        if (x == null || !x.t.has(c) || !value(from) || !value(to) || from > to) return false;
        x.tests.put(c, new int[] {from, to});
        return true;
    }

    private A aid(T t, int kind, int... by) {
        if (t == null || aids.size() == 12) return null;
        A a = new A();
        a.t = t;
        a.kind = kind;
        for (int i = 0; i < by.length; i++) {
            if (by[i] == NONE && i > 0) {
                for (int j = i; j < by.length; j++) if (by[j] != NONE) return null;
                break;
            }
            if (!t.has(by[i]) || a.by.contains(by[i])) return null;
            a.by.add(by[i]);
        }
        return a;
    }

    private int keep(A a) {
        a.number = aids.size();
        aids.add(a);
        return a.number;
    }

    int order(int t, int kind, int a, int b, int c, int further) {
        if (kind != 0 && kind != 1 && kind != 4) return NONE;
        A x = aid(t(t), kind, a, b, c);
        if (x == null) return NONE;
        if (kind == 1) {
            if (!x.t.bits(further) || columnsOf(further).stream().allMatch(x.by::contains)) return NONE;
            x.further = further;
        }
        return keep(x);
    }

    int part(int t, int a, int b, int c, int from, int to) {
        A x = aid(t(t), 2, a, b);
        if (x == null || !x.t.has(c) || !value(from) || !value(to) || from > to) return NONE;
        x.partColumn = c;
        x.from = from;
        x.to = to;
        return keep(x);
    }

    int sums(int t, int columns, int c) {
        A x = aid(t(t), 3);
        if (x == null || !x.t.bits(columns) || !x.t.has(c)) return NONE;
        int n = columnsOf(columns).size();
        if (n < 1 || n > 2) return NONE;
        x.set = columns;
        x.sum = c;
        return keep(x);
    }

    private static Set<Integer> columnsOf(int bits) {
        Set<Integer> all = new TreeSet<>();
        for (int c = 0; c < 4; c++) if ((bits & 1 << c) != 0) all.add(c);
        return all;
    }

    boolean build(int a, boolean is) {
        A x = a(a);
        if (x == null || x.built == is) return false;
        if (is && x.kind == 4) {
            for (A y : aids) if (y.kind == 4 && y.built && y.t == x.t) return false;
        }
        x.built = is;
        return true;
    }

    private static int passing(T t, int m, int c, int from, int to) {
        int within = 0;
        if (m > 0) {
            for (int v = t.least[c]; v <= t.greatest[c]; v++) within += from <= v && v <= to ? 1 : 0;
        }
        if (within == 0) return 0;
        return from == to ? up(m, t.unlike[c]) : up((long) m * within, t.greatest[c] - t.least[c] + 1);
    }

    private static List<Integer> uses(A a, Q q) {
        List<Integer> used = new ArrayList<>();
        for (int c : a.by) {
            int[] test = q.tests.get(c);
            if (test == null) break;
            used.add(c);
            if (test[0] != test[1]) break;
        }
        return used;
    }

    private static boolean helps(A a, Q q) {
        if (a.t != q.t) return false;
        if (a.kind == 2) {
            int[] test = q.tests.get(a.partColumn);
            return test != null && a.from <= test[0] && test[1] <= a.to;
        }
        if (a.kind == 3) {
            return q.wants == 0 && q.adds == a.sum && columnsOf(a.set).containsAll(q.tests.keySet());
        }
        return !uses(a, q).isEmpty();
    }

    private static boolean covers(A a, Q q) {
        Set<Integer> needed = new HashSet<>(columnsOf(q.wants));
        needed.addAll(q.tests.keySet());
        if (q.adds != NONE) needed.add(q.adds);
        Set<Integer> held = new HashSet<>(columnsOf(a.further));
        held.addAll(a.by);
        return held.containsAll(needed);
    }

    private static int groups(A a) {
        int groups = 1;
        for (int c : columnsOf(a.set)) groups *= a.t.unlike[c];
        return Math.min(groups, a.t.counted);
    }

    private static int standing(A a) {
        return a.kind == 2 ? passing(a.t, a.t.counted, a.partColumn, a.from, a.to) : a.t.counted;
    }

    private static int pagesWith(A a, Q q, int matched, int fetching) {
        if (a.kind == 4) return 1 + up(matched, a.t.page);
        int found = 1 + up(matched, 2 * a.t.page);
        return a.kind == 1 && covers(a, q) ? found : found + fetching;
    }

    private static int cost(A a, Q q) {
        if (a.kind == 3) return 1 + up(groups(a), 2 * a.t.page);
        int matched = standing(a);
        for (int c : uses(a, q)) matched = passing(a.t, matched, c, q.tests.get(c)[0], q.tests.get(c)[1]);
        return pagesWith(a, q, matched, Math.min(matched, a.t.pages()));
    }

    private static int room(A a) {
        switch (a.kind) {
            case 1:
                Set<Integer> beyond = columnsOf(a.further);
                beyond.removeAll(a.by);
                return up((long) a.t.counted * (1 + beyond.size()), 2 * a.t.page);
            case 3:
                return up(groups(a), 2 * a.t.page);
            case 4:
                return 0;
            default:
                return up(standing(a), 2 * a.t.page);
        }
    }

    int cost(int q, int a) {
        Q x = q(q);
        if (x == null) return NONE;
        if (a == NONE) return x.t.pages();
        A y = a(a);
        return y == null || !helps(y, x) ? NONE : cost(y, x);
    }

    int plan(int q) {
        Q x = q(q);
        if (x == null) return -2;
        int least = x.t.pages();
        for (A a : aids) if (a.built && helps(a, x)) least = Math.min(least, cost(a, x));
        if (least == x.t.pages()) return NONE;
        for (A a : aids) if (a.built && helps(a, x) && cost(a, x) == least) return a.number;
        throw new IllegalStateException();
    }

    private static boolean passes(int[] row, Q q, Iterable<Integer> columns) {
        for (int c : columns) if (row[c] < q.tests.get(c)[0] || row[c] > q.tests.get(c)[1]) return false;
        return true;
    }

    private int fetched(Q q, int plan) {
        T t = q.t;
        if (plan == NONE) return up(t.rows.size(), t.page);
        A a = aids.get(plan);
        if (a.kind == 3) {
            Set<String> unlike = new HashSet<>();
            for (int[] row : t.rows) {
                StringBuilder key = new StringBuilder();
                for (int c : columnsOf(a.set)) key.append(row[c]).append(',');
                unlike.add(key.toString());
            }
            return 1 + up(unlike.size(), 2 * t.page);
        }
        int matched = 0;
        Set<Integer> pages = new HashSet<>();
        for (int r = 0; r < t.rows.size(); r++) {
            int[] row = t.rows.get(r);
            boolean within = a.kind != 2 || a.from <= row[a.partColumn] && row[a.partColumn] <= a.to;
            if (within && passes(row, q, uses(a, q))) {
                matched++;
                pages.add(r / t.page);
            }
        }
        return pagesWith(a, q, matched, pages.size());
    }

    int run(int q, int what) {
        Q x = q(q);
        if (x == null || what < 0 || what > 3) return NONE;
        if (what == 2) return fetched(x, plan(q));
        if (what == 3) return cost(q, plan(q));
        int rows = 0;
        int sum = 0;
        for (int[] row : x.t.rows) {
            if (passes(row, x, x.tests.keySet())) {
                rows++;
                sum += x.adds == NONE ? 0 : row[x.adds];
            }
        }
        return what == 0 ? rows : sum;
    }

    private List<A> members(int set) {
        List<A> all = new ArrayList<>();
        for (A a : aids) if ((set & 1 << a.number) != 0) all.add(a);
        return all;
    }

    private boolean isSet(int set) {
        if (set < 0 || set >= 1 << aids.size()) return false;
        Set<T> clustered = new HashSet<>();
        for (A a : members(set)) if (a.kind == 4 && !clustered.add(a.t)) return false;
        return true;
    }

    long total(int set) {
        if (!isSet(set)) return NONE;
        long sum = 0;
        for (Q q : questions) {
            int least = q.t.pages();
            for (A a : members(set)) if (helps(a, q)) least = Math.min(least, cost(a, q));
            sum += (long) q.weight * least;
        }
        int[] keeping = {2, 3, 1, 2, 4};
        for (A a : members(set)) sum += (long) keeping[a.kind] * a.t.changes;
        return sum;
    }

    int room(int set) {
        if (!isSet(set)) return NONE;
        int sum = 0;
        for (A a : members(set)) sum += room(a);
        return sum;
    }

    int built() {
        int set = 0;
        for (A a : aids) if (a.built) set += 1 << a.number;
        return set;
    }

    long look(int a, int what) {
        A x = a(a);
        if (x == null) return NONE;
        switch (what) {
            case 0: return x.kind;
            case 1: return Arrays.asList(tables).indexOf(x.t);
            case 2: return room(x);
            case 3: return x.built ? 1 : 0;
            case 4: return total(0) - total(1 << a);
            case 5: return x.built ? total(built() - (1 << a)) - total(built()) : NONE;
            default: return NONE;
        }
    }

    int choose(int room) {
        if (room < 0 || room > 10000) return NONE;
        int best = 0;
        long bestCost = total(0);
        for (int set = 1; set < 1 << aids.size(); set++) {
            if (!isSet(set) || room(set) > room) continue;
            long cost = total(set);
            int more = Integer.bitCount(set) - Integer.bitCount(best);
            int lowest = Integer.lowestOneBit(set ^ best);
            if (cost < bestCost || cost == bestCost && (more < 0 || more == 0 && (set & lowest) != 0)) {
                best = set;
                bestCost = cost;
            }
        }
        return best;
    }

    int greedy(int room) {
        if (room < 0 || room > 10000) return NONE;
        int set = 0;
        while (true) {
            A best = null;
            long bestSaved = 0;
            for (A a : aids) {
                int with = set | 1 << a.number;
                if (with == set || !isSet(with) || room(with) > room) continue;
                long saved = total(set) - total(with);
                if (saved > bestSaved || best != null && saved == bestSaved && room(a) < room(best)) {
                    best = a;
                    bestSaved = saved;
                }
            }
            if (best == null) return set;
            set |= 1 << best.number;
        }
    }

    int count(int what) {
        int told = 0;
        int rows = 0;
        for (T t : tables) {
            told += t == null ? 0 : 1;
            rows += t == null ? 0 : t.rows.size();
        }
        return what == 0 ? told : what == 1 ? questions.size() : what == 2 ? aids.size() : what == 3 ? rows : NONE;
    }
}
