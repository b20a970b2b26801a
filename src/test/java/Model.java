import java.util.ArrayList;
import java.util.Comparator;
import java.util.HashMap;
import java.util.HashSet;
import java.util.List;
import java.util.Map;
import java.util.Set;

/**
 * The document once more, told as plainly as can be, without a thought of speed: ALL HOLDS is
 * asked of the whole net, flow is sought by ways that are widened, LAYING calls itself. Answers
 * of SliceSeller are compared with the answers of this.
 */
final class Model {
    static final int BEYOND = -1000001;
    static final int FULL = -1000002;
    static final int STATE = -1000003;
    static final int KIND = -1000004;
    static final int NONE = -1000005;
    static final int SPENT = -1000006;
    static final int MISSING = -1000007;
    static final int SIZE = -1000008;

    private record Line(int a, int b, int room, int late, int price) {
        int other(int n) {
            return n == a ? b : n == b ? a : -1;
        }
    }

    private record Place(List<Integer> way, List<Integer> spare, int host) { }

    private static final class Slice {
        int kind, a, b, rate, bound, least, work, price, first = 0, last = 23, hours;
        Place in;
        int waiting, passed, lent, paid, latest;

        int need() {
            return switch (kind) {
                case 2 -> least;
                case 3 -> 0;
                default -> rate;
            };
        }

        boolean counts(int tick) {
            return tick >= first && tick <= last && (kind != 4 || (hours >> (tick % 6) & 1) == 1);
        }
    }

    private static final class Spent extends RuntimeException {
        private static final long serialVersionUID = 1L;
    }

    private final List<Integer> nodes = new ArrayList<>();
    private final List<Line> lines = new ArrayList<>();
    private final List<Boolean> ups = new ArrayList<>();
    private final int[] over = new int[9];
    private final int[] overLatest = new int[9];
    private final int[] earned = new int[9];
    private final List<Slice> slices = new ArrayList<>();
    /** PLACES that were gathered since the latest LINE came. */
    private final Map<Slice, List<Place>> known = new HashMap<>();
    private final int[][] sheets = new int[4][];
    private final int[] bitsOf = new int[4];
    private int found, tries, tick, lentLast = -1, passed, paid;

    private int finding(int f) {
        found++;
        return f;
    }

    private boolean badNodes(int a, int b) {
        return a < 0 || b < 0 || a >= nodes.size() || b >= nodes.size() || a == b;
    }

    private boolean badSlice(int s) {
        return s < 0 || s >= slices.size();
    }

    private boolean badLine(int l) {
        return l < 0 || l >= lines.size();
    }

    private static boolean badTick(int t) {
        return t < 0 || t > 23;
    }

    // ---- the net

    int node(int work) {
        if (work < 0 || work > 100) return finding(BEYOND);
        if (nodes.size() == 6) return finding(FULL);
        nodes.add(work);
        return nodes.size() - 1;
    }

    int line(int a, int b, int room, int late, int price) {
        if (badNodes(a, b) || room < 1 || room > 50 || late < 1 || late > 9 || price < 0 || price > 9) {
            return finding(BEYOND);
        }
        if (lines.size() == 9) return finding(FULL);
        lines.add(new Line(a, b, room, late, price));
        ups.add(true);
        known.clear();
        return lines.size() - 1;
    }

    int up(int line, boolean is) {
        if (badLine(line)) return finding(BEYOND);
        return ups.set(line, is) == is ? 0 : 1;
    }

    private int lateness(List<Integer> way) {
        return way.stream().mapToInt(l -> lines.get(l).late()).sum();
    }

    private List<List<Integer>> allWays(int a, int b) {
        List<List<Integer>> all = new ArrayList<>();
        walk(a, b, new HashSet<>(Set.of(a)), new ArrayList<>(), all);
        Comparator<List<Integer>> byLines = (x, y) -> {
            for (int i = 0; i < x.size(); i++) {
                int c = Integer.compare(x.get(i), y.get(i));
                if (c != 0) return c;
            }
            return 0;
        };
        all.sort(Comparator.<List<Integer>>comparingInt(this::lateness)
                .thenComparingInt(List::size).thenComparing(byLines));
        return all;
    }

    private void walk(int at, int b, Set<Integer> seen, List<Integer> way, List<List<Integer>> all) {
        if (at == b) {
            all.add(List.copyOf(way));
            return;
        }
        for (int l = 0; l < lines.size(); l++) {
            int next = lines.get(l).other(at);
            if (next >= 0 && seen.add(next)) {
                way.add(l);
                walk(next, b, seen, way, all);
                way.remove(way.size() - 1);
                seen.remove(next);
            }
        }
    }

    int ways(int a, int b) {
        return badNodes(a, b) ? finding(BEYOND) : allWays(a, b).size();
    }

    int way(int a, int b, int i, int k) {
        if (badNodes(a, b) || i < 0 || k < -1) return finding(BEYOND);
        List<List<Integer>> all = allWays(a, b);
        if (i >= all.size()) return finding(NONE);
        List<Integer> way = all.get(i);
        if (k == -1) return lateness(way);
        return k < way.size() ? way.get(k) : -1;
    }

    private int free(int line, int t) {
        return lines.get(line).room() - loadOf(line, t) - fallRoomOf(line, t);
    }

    /** Widened one unit at a time; what is left of the net then tells THE CUT. Answers {flow, cut}. */
    private int[] flowAndCut(int a, int b, int t) {
        int n = nodes.size();
        int[][] cap = new int[n][n];
        for (int l = 0; l < lines.size(); l++) {
            if (ups.get(l)) {
                cap[lines.get(l).a()][lines.get(l).b()] += free(l, t);
                cap[lines.get(l).b()][lines.get(l).a()] += free(l, t);
            }
        }
        int flow = 0;
        while (true) {
            int[] from = new int[n];
            java.util.Arrays.fill(from, -1);
            from[a] = a;
            List<Integer> queue = new ArrayList<>(List.of(a));
            for (int q = 0; q < queue.size(); q++) {
                for (int y = 0; y < n; y++) {
                    if (from[y] < 0 && cap[queue.get(q)][y] > 0) {
                        from[y] = queue.get(q);
                        queue.add(y);
                    }
                }
            }
            if (from[b] < 0) {
                return new int[] {flow, queue.stream().mapToInt(x -> 1 << x).sum()};
            }
            for (int y = b; y != a; y = from[y]) {
                cap[from[y]][y]--;
                cap[y][from[y]]++;
            }
            flow++;
        }
    }

    int flow(int a, int b, int t) {
        return badNodes(a, b) || badTick(t) ? finding(BEYOND) : flowAndCut(a, b, t)[0];
    }

    int cut(int a, int b, int t) {
        return badNodes(a, b) || badTick(t) ? finding(BEYOND) : flowAndCut(a, b, t)[1];
    }

    // ---- slices

    int slice(int kind, int a, int b, int rate, int bound) {
        if (kind < 0 || kind > 4 || badNodes(a, b) || rate < 1 || rate > 20 || bound < 1 || bound > 99) {
            return finding(BEYOND);
        }
        if (slices.size() == 8) return finding(FULL);
        Slice s = new Slice();
        s.kind = kind;
        s.a = a;
        s.b = b;
        s.rate = rate;
        s.bound = bound;
        slices.add(s);
        return slices.size() - 1;
    }

    int terms(int slice, int least, int work, int price) {
        if (badSlice(slice)) return finding(BEYOND);
        Slice s = slices.get(slice);
        if (least < 0 || least > s.rate || work < 0 || work > 20 || price < 0 || price > 1000) {
            return finding(BEYOND);
        }
        if (s.in != null) return finding(STATE);
        s.least = least;
        s.work = work;
        s.price = price;
        return 1;
    }

    int span(int slice, int first, int last, int hours) {
        if (badSlice(slice) || badTick(first) || badTick(last) || first > last || hours < 0 || hours > 63) {
            return finding(BEYOND);
        }
        Slice s = slices.get(slice);
        if (s.in != null) return finding(STATE);
        s.first = first;
        s.last = last;
        s.hours = hours;
        return 1;
    }

    int as(int slice, int kind) {
        if (badSlice(slice) || kind < 0 || kind > 4) return finding(BEYOND);
        int k = slices.get(slice).kind;
        boolean is = kind == 0 || k == kind || k == 3 && kind == 2;
        return is ? slice : finding(KIND);
    }

    int of(int slice, int what) {
        if (badSlice(slice) || what < 0 || what > 17) return finding(BEYOND);
        Slice s = slices.get(slice);
        return new int[] {s.kind, s.a, s.b, s.rate, s.bound, s.least, s.work, s.price, s.first, s.last,
            s.hours, s.in != null ? 1 : 0, s.waiting, s.passed, s.lent, s.paid, s.latest, s.need()}[what];
    }

    private Set<Integer> nodesOf(List<Integer> way) {
        Set<Integer> met = new HashSet<>();
        for (int l : way) {
            met.add(lines.get(l).a());
            met.add(lines.get(l).b());
        }
        return met;
    }

    private List<Place> placesOf(Slice s) {
        return new ArrayList<>(known.computeIfAbsent(s, this::gatherPlaces));
    }

    private List<Place> gatherPlaces(Slice s) {
        List<List<Integer>> ways = allWays(s.a, s.b);
        ways.removeIf(w -> lateness(w) > s.bound);
        List<Place> all = new ArrayList<>();
        for (List<Integer> way : ways) {
            List<List<Integer>> spares = new ArrayList<>();
            if (s.kind == 1) {
                for (List<Integer> w : ways) {
                    if (w.stream().noneMatch(way::contains)) spares.add(w);
                }
            } else {
                spares.add(List.of());
            }
            for (List<Integer> spare : spares) {
                for (int h = 0; h < nodes.size(); h++) {
                    if (nodesOf(way).contains(h) && (s.kind != 1 || nodesOf(spare).contains(h))) {
                        all.add(new Place(way, spare, h));
                    }
                }
            }
        }
        return all;
    }

    private boolean areUp(List<Integer> way) {
        return way.stream().allMatch(ups::get);
    }

    private boolean isUp(Place p) {
        return areUp(p.way) && areUp(p.spare);
    }

    private int loadOf(int line, int t) {
        int sum = 0;
        for (Slice s : slices) {
            if (s.in != null && s.counts(t) && s.in.way.contains(line)) sum += s.need();
        }
        return sum;
    }

    private int fallRoomOf(int line, int t) {
        int most = 0;
        for (int other = 0; other < lines.size(); other++) {
            int sum = 0;
            for (Slice s : slices) {
                boolean both = s.in != null && s.kind == 1 && s.counts(t)
                        && s.in.way.contains(other) && s.in.spare.contains(line);
                if (other != line && both) sum += s.need();
            }
            most = Math.max(most, sum);
        }
        return most;
    }

    private int worksOf(int node, int t) {
        int sum = 0;
        for (Slice s : slices) {
            if (s.in != null && s.counts(t) && s.in.host == node) sum += s.work;
        }
        return sum;
    }

    private boolean allLinesHold() {
        for (int t = 0; t < 24; t++) {
            for (int l = 0; l < lines.size(); l++) {
                if (free(l, t) < 0) return false;
            }
        }
        return true;
    }

    private boolean allHolds() {
        for (int t = 0; t < 24; t++) {
            for (int n = 0; n < nodes.size(); n++) {
                if (worksOf(n, t) > nodes.get(n)) return false;
            }
        }
        return allLinesHold();
    }

    int places(int slice) {
        return badSlice(slice) ? finding(BEYOND) : placesOf(slices.get(slice)).size();
    }

    int letIn(int slice) {
        if (badSlice(slice)) return finding(BEYOND);
        Slice s = slices.get(slice);
        if (s.in != null) return finding(STATE);
        List<Place> all = placesOf(s);
        for (int p = 0; p < all.size(); p++) {
            if (isUp(all.get(p))) {
                s.in = all.get(p);
                if (allHolds()) return p;
                s.in = null;
            }
        }
        return finding(NONE);
    }

    int why(int slice) {
        if (badSlice(slice)) return finding(BEYOND);
        Slice s = slices.get(slice);
        if (s.in != null) return finding(STATE);
        List<Place> all = placesOf(s);
        if (all.isEmpty()) return 1;
        all.removeIf(p -> !isUp(p));
        if (all.isEmpty()) return 2;
        boolean lined = false;
        boolean whole = false;
        for (Place p : all) {
            s.in = p;
            lined |= allLinesHold();
            whole |= allHolds();
            s.in = null;
        }
        return whole ? 0 : lined ? 4 : 3;
    }

    int out(int slice) {
        if (badSlice(slice)) return finding(BEYOND);
        if (slices.get(slice).in == null) return finding(STATE);
        slices.get(slice).in = null;
        return 1;
    }

    int wayOf(int slice, boolean spare, int i) {
        if (badSlice(slice) || i < 0) return finding(BEYOND);
        Slice s = slices.get(slice);
        if (s.in == null) return finding(STATE);
        if (spare && s.kind != 1) return finding(KIND);
        List<Integer> way = spare ? s.in.spare : s.in.way;
        return i < way.size() ? way.get(i) : -1;
    }

    int host(int slice) {
        if (badSlice(slice)) return finding(BEYOND);
        return slices.get(slice).in == null ? finding(STATE) : slices.get(slice).in.host;
    }

    int load(int line, int t) {
        return badLine(line) || badTick(t) ? finding(BEYOND) : loadOf(line, t);
    }

    int fallRoom(int line, int t) {
        return badLine(line) || badTick(t) ? finding(BEYOND) : fallRoomOf(line, t);
    }

    int work(int node, int t) {
        return node < 0 || node >= nodes.size() || badTick(t) ? finding(BEYOND) : worksOf(node, t);
    }

    int spare(int line) {
        if (badLine(line)) return finding(BEYOND);
        int least = 1000;
        for (int t = 0; t < 24; t++) least = Math.min(least, free(line, t));
        return least;
    }

    /** null: there is none. */
    private List<Integer> taken(Slice s) {
        if (s.in == null) return null;
        if (areUp(s.in.way)) return s.in.way;
        return s.kind == 1 && areUp(s.in.spare) ? s.in.spare : null;
    }

    int took(int line) {
        if (line != -1 && badLine(line)) return finding(BEYOND);
        boolean was = line != -1 && ups.set(line, false);
        int set = 0;
        for (int i = 0; i < slices.size(); i++) {
            if (slices.get(i).in != null && taken(slices.get(i)) == null) set |= 1 << i;
        }
        if (line != -1) ups.set(line, was);
        return set;
    }

    // ---- laid anew

    /** Lays a set from one SLICE on; the others of it are IN already. */
    private boolean layFrom(int set, int i) {
        if (i == slices.size()) return true;
        if ((set >> i & 1) == 0) return layFrom(set, i + 1);
        Slice s = slices.get(i);
        for (Place p : placesOf(s)) {
            if (isUp(p)) {
                if (tries == 2000) throw new Spent();
                tries++;
                s.in = p;
                if (allHolds() && layFrom(set, i + 1)) return true;
                s.in = null;
            }
        }
        return false;
    }

    private List<Place> state() {
        List<Place> state = new ArrayList<>();
        for (Slice s : slices) state.add(s.in);
        return state;
    }

    private void restore(List<Place> state) {
        for (int i = 0; i < slices.size(); i++) slices.get(i).in = state.get(i);
    }

    private boolean badSet(int set) {
        return set < 0 || set >= 1 << slices.size();
    }

    private boolean layAnew(int set) {
        for (Slice s : slices) s.in = null;
        return layFrom(set, 0);
    }

    int lay(int set) {
        if (badSet(set)) return finding(BEYOND);
        tries = 0;
        List<Place> before = state();
        try {
            if (!layAnew(set)) {
                restore(before);
                return finding(NONE);
            }
        } catch (Spent e) {
            restore(before);
            return finding(SPENT);
        }
        int others = 0;
        for (int i = 0; i < slices.size(); i++) {
            if (before.get(i) != null && !before.get(i).equals(slices.get(i).in)) others++;
        }
        return others;
    }

    int can(int set) {
        if (badSet(set)) return finding(BEYOND);
        tries = 0;
        List<Place> before = state();
        try {
            return layAnew(set) ? 1 : 0;
        } catch (Spent e) {
            return finding(SPENT);
        } finally {
            restore(before);
        }
    }

    private int pricesOf(int set) {
        int sum = 0;
        for (int i = 0; i < slices.size(); i++) {
            if ((set >> i & 1) == 1) sum += slices.get(i).price;
        }
        return sum;
    }

    int best() {
        tries = 0;
        List<Integer> sets = new ArrayList<>();
        for (int set = 0; set < 1 << slices.size(); set++) sets.add(set);
        sets.sort((x, y) -> Integer.compare(pricesOf(y), pricesOf(x)));
        List<Place> before = state();
        try {
            for (int set : sets) {
                if (layAnew(set)) return set;
            }
            return 0;
        } catch (Spent e) {
            return finding(SPENT);
        } finally {
            restore(before);
        }
    }

    int tries() {
        return tries;
    }

    // ---- the day

    int offer(int slice, int v) {
        if (badSlice(slice) || v < 1 || v > 100) return finding(BEYOND);
        if (slices.get(slice).waiting + v > 1000) return finding(FULL);
        return slices.get(slice).waiting += v;
    }

    private int left(int line) {
        return lines.get(line).room() - overLatest[line];
    }

    private void passOne(Slice s) {
        s.waiting--;
        s.passed++;
        s.latest++;
        passed++;
        for (int l : taken(s)) {
            over[l]++;
            overLatest[l]++;
            earned[l] += lines.get(l).price();
            s.paid += lines.get(l).price();
            paid += lines.get(l).price();
        }
    }

    private boolean mayPass(Slice s) {
        return s.in != null && s.counts(tick) && taken(s) != null && s.waiting > 0
                && taken(s).stream().allMatch(l -> left(l) > 0);
    }

    private void doTick() {
        java.util.Arrays.fill(overLatest, 0);
        for (Slice s : slices) s.latest = 0;
        for (Slice s : slices) {
            while (mayPass(s) && s.latest < s.need()) passOne(s);
        }
        boolean any = !slices.isEmpty();
        while (any) {
            any = false;
            int start = lentLast + 1;
            for (int step = 0; step < slices.size(); step++) {
                int i = (start + step) % slices.size();
                Slice s = slices.get(i);
                if (s.kind >= 2 && s.kind <= 3 && mayPass(s) && s.latest < s.rate) {
                    passOne(s);
                    s.lent++;
                    lentLast = i;
                    any = true;
                }
            }
        }
        tick = tick == 23 ? 0 : tick + 1;
    }

    int run(int n) {
        if (n < 1 || n > 24) return finding(BEYOND);
        int before = passed;
        for (int i = 0; i < n; i++) doTick();
        return passed - before;
    }

    int about(int line, int what) {
        if (badLine(line) || what < 0 || what > 8) return finding(BEYOND);
        Line l = lines.get(line);
        return new int[] {l.a(), l.b(), l.room(), l.late(), l.price(), ups.get(line) ? 1 : 0,
            over[line], overLatest[line], earned[line]}[what];
    }

    // ---- sheets

    int sheet(int s, int bits, int n) {
        if (s < 0 || s > 3 || !List.of(0, 8, 16, 32).contains(bits)) return finding(BEYOND);
        if (n < 0) return finding(SIZE);
        if (n > 8) return finding(BEYOND);
        bitsOf[s] = bits;
        sheets[s] = bits == 0 ? null : new int[n];
        return bits == 0 ? 0 : n;
    }

    int write(int s, int i, int v) {
        if (s < 0 || s > 3) return finding(BEYOND);
        if (sheets[s] == null) return finding(MISSING);
        if (i < 0 || i >= sheets[s].length) return finding(BEYOND);
        int was = sheets[s][i];
        sheets[s][i] = v << (32 - bitsOf[s]) >> (32 - bitsOf[s]);
        return was;
    }

    int copy(int s, int from, int t, int to, int n) {
        if (s < 0 || s > 3 || t < 0 || t > 3) return finding(BEYOND);
        if (sheets[s] == null || sheets[t] == null) return finding(MISSING);
        if (bitsOf[s] != bitsOf[t]) return finding(KIND);
        if (from < 0 || to < 0 || n < 0 || (long) from + n > sheets[s].length
                || (long) to + n > sheets[t].length) {
            return finding(BEYOND);
        }
        int[] were = sheets[s].clone();
        for (int i = 0; i < n; i++) sheets[t][to + i] = were[from + i];
        return n;
    }

    int read(int s) {
        if (s < 0 || s > 3) return finding(BEYOND);
        if (sheets[s] == null) return finding(MISSING);
        if (sheets[s].length > slices.size()) return finding(BEYOND);
        for (int v : sheets[s]) {
            if (v > 100) return finding(BEYOND);
        }
        for (int i = 0; i < sheets[s].length; i++) {
            if (slices.get(i).waiting + Math.max(0, sheets[s][i]) > 1000) return finding(FULL);
        }
        int came = 0;
        for (int i = 0; i < sheets[s].length; i++) {
            slices.get(i).waiting += Math.max(0, sheets[s][i]);
            came += Math.max(0, sheets[s][i]);
        }
        return came;
    }

    int told(int what) {
        if (what < 0 || what > 7) return finding(BEYOND);
        int in = 0;
        for (Slice s : slices) in += s.in != null ? 1 : 0;
        return new int[] {nodes.size(), lines.size(), slices.size(), in, tick, found, passed, paid}[what];
    }
}
