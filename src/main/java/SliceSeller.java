/**
 * A seller of slices of a net. The promises it keeps are told, by number, in shared/DOC.md;
 * words in capitals in the comments here are that document's.
 *
 * A set (of LINES, NODES, SLICES, TICKS) is an int with a bit for each member.
 */
public final class SliceSeller {
    private static final int BEYOND = -1000001;
    private static final int FULL = -1000002;
    private static final int STATE = -1000003;
    private static final int KIND = -1000004;
    private static final int NONE = -1000005;
    private static final int SPENT = -1000006;
    private static final int MISSING = -1000007;
    private static final int SIZE = -1000008;

    private static final int MOST_NODES = 6;
    private static final int MOST_LINES = 9;
    private static final int MOST_SLICES = 8;
    private static final int MOST_SHEETS = 4;
    private static final int MOST_NUMBERS = 8;
    private static final int MOST_TRIES = 2000;
    private static final int MOST_WAITING = 1000;
    private static final int MOST_OFFERED = 100;
    private static final int TICKS = 24;
    private static final int HOURS = 6;

    /** A WAY comes to no NODE twice. */
    private static final int MOST_HOPS = MOST_NODES - 1;
    /** No net of 6 NODES and 9 LINES has more between two NODES: all such nets were gone through. */
    private static final int MOST_WAYS = 27;
    private static final int MOST_SETS = 1 << MOST_SLICES;

    private static final int PLAIN = 0;
    private static final int SURE = 1;
    private static final int ELASTIC = 2;
    private static final int SHARED = 3;
    private static final int TIMED = 4;
    private static final int KINDS = 5;
    /** The kind that each kind is under; -1: none. */
    private static final int[] ABOVE = {-1, PLAIN, PLAIN, ELASTIC, PLAIN};

    private final Net net;
    private final Slices slices;
    private final Book book;
    private final Cut leastCut;
    private final Layer layer;
    private final Day day;
    private final Sheet[] sheets;
    private int findings;

    public SliceSeller() {
        Net newNet = new Net();
        Slices newSlices = new Slices();
        net = newNet;
        slices = newSlices;
        book = new Book();
        leastCut = new Cut();
        layer = new Layer(newNet, newSlices);
        day = new Day(newNet, newSlices);
        Sheet[] row = new Sheet[MOST_SHEETS];
        for (int s = 0; s < MOST_SHEETS; s++) {
            row[s] = new Sheet();
        }
        sheets = row;
    }

    // ---- the net

    public int node(int work) {
        if (!isWithin(work, 0, 100)) {
            return finding(BEYOND);
        }
        return net.nodes >= MOST_NODES ? finding(FULL) : net.addNode(work);
    }

    public int line(int a, int b, int room, int late, int price) {
        boolean right = net.areTwoNodes(a, b) && isWithin(room, 1, 50)
                && isWithin(late, 1, 9) && isWithin(price, 0, 9);
        if (!right) {
            return finding(BEYOND);
        }
        return net.lines >= MOST_LINES ? finding(FULL) : net.addLine(a, b, room, late, price);
    }

    public int up(int line, boolean is) {
        if (!net.hasLine(line)) {
            return finding(BEYOND);
        }
        return net.setUp(line, is) ? 1 : 0;
    }

    public int ways(int a, int b) {
        return net.areTwoNodes(a, b) ? net.waysBetween(a, b).size : finding(BEYOND);
    }

    public int way(int a, int b, int i, int k) {
        if (!net.areTwoNodes(a, b) || i < 0 || k < -1) {
            return finding(BEYOND);
        }
        Ways all = net.waysBetween(a, b);
        if (i >= all.size) {
            return finding(NONE);
        }
        int key = all.keyAt(i);
        return k == -1 ? Ways.lateOf(key) : Ways.lineAt(key, k);
    }

    public int flow(int a, int b, int tick) {
        if (!net.areTwoNodes(a, b) || !isTick(tick)) {
            return finding(BEYOND);
        }
        // What can go from a NODE to another one is as much as the least cut between them lets through.
        leastCut.find(net, book, a, b, tick);
        return leastCut.room;
    }

    public int cut(int a, int b, int tick) {
        if (!net.areTwoNodes(a, b) || !isTick(tick)) {
            return finding(BEYOND);
        }
        leastCut.find(net, book, a, b, tick);
        return leastCut.set;
    }

    // ---- slices

    public int slice(int kind, int a, int b, int rate, int bound) {
        boolean right = isKind(kind) && net.areTwoNodes(a, b)
                && isWithin(rate, 1, 20) && isWithin(bound, 1, 99);
        if (!right) {
            return finding(BEYOND);
        }
        return slices.size >= MOST_SLICES ? finding(FULL) : slices.add(kind, a, b, rate, bound);
    }

    public int terms(int slice, int least, int work, int price) {
        boolean right = slices.hasSlice(slice) && isWithin(least, 0, slices.at(slice).rate)
                && isWithin(work, 0, 20) && isWithin(price, 0, 1000);
        if (!right) {
            return finding(BEYOND);
        }
        Slice s = slices.at(slice);
        if (s.isIn()) {
            return finding(STATE);
        }
        s.setTerms(least, work, price);
        return 1;
    }

    public int span(int slice, int first, int last, int hours) {
        boolean right = slices.hasSlice(slice) && isTick(first) && isTick(last)
                && first <= last && isWithin(hours, 0, (1 << HOURS) - 1);
        if (!right) {
            return finding(BEYOND);
        }
        Slice s = slices.at(slice);
        if (s.isIn()) {
            return finding(STATE);
        }
        s.setSpan(first, last, hours);
        return 1;
    }

    public int as(int slice, int kind) {
        if (!slices.hasSlice(slice) || !isKind(kind)) {
            return finding(BEYOND);
        }
        return slices.at(slice).isOf(kind) ? slice : finding(KIND);
    }

    public int of(int slice, int what) {
        if (!slices.hasSlice(slice) || !isWithin(what, 0, 17)) {
            return finding(BEYOND);
        }
        Slice s = slices.at(slice);
        return what <= 10 ? s.askedFor(what) : s.becameOf(what);
    }

    public int places(int slice) {
        return slices.hasSlice(slice) ? slices.placesOf(net, slice).size : finding(BEYOND);
    }

    public int letIn(int slice) {
        if (!slices.hasSlice(slice)) {
            return finding(BEYOND);
        }
        Slice s = slices.at(slice);
        if (s.isIn()) {
            return finding(STATE);
        }
        Places places = slices.placesOf(net, slice);
        for (int p = 0; p < places.size; p++) {
            int place = places.placeAt(p);
            if (net.isUp(linesOf(place)) && book.linesHold(net, s, place, s.ticks)
                    && book.hostHolds(net, s, place, s.ticks)) {
                comeIn(s, place);
                return p;
            }
        }
        return finding(NONE);
    }

    public int why(int slice) {
        if (!slices.hasSlice(slice)) {
            return finding(BEYOND);
        }
        Slice s = slices.at(slice);
        if (s.isIn()) {
            return finding(STATE);
        }
        Places places = slices.placesOf(net, slice);
        places.keepUp(net);
        if (places.size == 0) {
            return 1;
        }
        return places.upSize == 0 ? 2 : whyNoRoom(s, places);
    }

    public int out(int slice) {
        if (!slices.hasSlice(slice)) {
            return finding(BEYOND);
        }
        Slice s = slices.at(slice);
        if (!s.isIn()) {
            return finding(STATE);
        }
        goOut(s);
        return 1;
    }

    public int wayOf(int slice, boolean spare, int i) {
        if (!slices.hasSlice(slice) || i < 0) {
            return finding(BEYOND);
        }
        Slice s = slices.at(slice);
        if (!s.isIn()) {
            return finding(STATE);
        }
        if (spare && !s.isOf(SURE)) {
            return finding(KIND);
        }
        return net.lineAlong(s.from, spare ? spareOf(s.place) : wayIn(s.place), i);
    }

    public int host(int slice) {
        if (!slices.hasSlice(slice)) {
            return finding(BEYOND);
        }
        Slice s = slices.at(slice);
        return s.isIn() ? hostOf(s.place) : finding(STATE);
    }

    public int load(int line, int tick) {
        return net.hasLine(line) && isTick(tick) ? book.loadAt(line, tick) : finding(BEYOND);
    }

    public int fallRoom(int line, int tick) {
        return net.hasLine(line) && isTick(tick) ? book.fallAt(line, tick) : finding(BEYOND);
    }

    public int work(int node, int tick) {
        return net.hasNode(node) && isTick(tick) ? book.worksAt(node, tick) : finding(BEYOND);
    }

    public int spare(int line) {
        if (!net.hasLine(line)) {
            return finding(BEYOND);
        }
        int least = book.freeAt(net, line, 0);
        for (int t = 1; t < TICKS; t++) {
            least = Math.min(least, book.freeAt(net, line, t));
        }
        return least;
    }

    public int took(int line) {
        if (line != -1 && !net.hasLine(line)) {
            return finding(BEYOND);
        }
        int down = line == -1 ? net.down : net.down | 1 << line;
        int set = 0;
        for (int i = 0; i < slices.size; i++) {
            Slice s = slices.at(i);
            if (s.isIn() && s.takenWay(down) == 0) {
                set |= 1 << i;
            }
        }
        return set;
    }

    // ---- laid anew

    public int lay(int set) {
        if (!slices.haveAll(set)) {
            return finding(BEYOND);
        }
        layer.begin();
        boolean laid = layer.laid(set);
        if (layer.spent) {
            return finding(SPENT);
        }
        return laid ? takeOver(set) : finding(NONE);
    }

    public int can(int set) {
        if (!slices.haveAll(set)) {
            return finding(BEYOND);
        }
        layer.begin();
        boolean laid = layer.laid(set);
        if (layer.spent) {
            return finding(SPENT);
        }
        return laid ? 1 : 0;
    }

    public int best() {
        layer.begin();
        int set = layer.dearest();
        return layer.spent ? finding(SPENT) : set;
    }

    public int tries() {
        return layer.asked;
    }

    // ---- the day

    public int offer(int slice, int v) {
        if (!slices.hasSlice(slice) || !isWithin(v, 1, MOST_OFFERED)) {
            return finding(BEYOND);
        }
        Slice s = slices.at(slice);
        if (s.waiting + v > MOST_WAITING) {
            return finding(FULL);
        }
        s.waiting += v;
        return s.waiting;
    }

    public int run(int n) {
        if (!isWithin(n, 1, TICKS)) {
            return finding(BEYOND);
        }
        int before = day.passed;
        for (int i = 0; i < n; i++) {
            day.doTick();
        }
        return day.passed - before;
    }

    public int about(int line, int what) {
        if (!net.hasLine(line) || !isWithin(what, 0, 8)) {
            return finding(BEYOND);
        }
        return what == 5 ? (net.isUp(1 << line) ? 1 : 0) : net.lineAt(line).tell(what);
    }

    // ---- sheets

    public int sheet(int s, int bits, int n) {
        if (!isSheet(s) || (bits != 0 && bits != 8 && bits != 16 && bits != 32)) {
            return finding(BEYOND);
        }
        if (n < 0) {
            return finding(SIZE);
        }
        if (n > MOST_NUMBERS) {
            return finding(BEYOND);
        }
        return sheets[s].begin(bits, n);
    }

    public int write(int s, int i, int v) {
        if (!isSheet(s)) {
            return finding(BEYOND);
        }
        if (sheets[s].isMissing()) {
            return finding(MISSING);
        }
        return isWithin(i, 0, sheets[s].size - 1) ? sheets[s].put(i, v) : finding(BEYOND);
    }

    public int copy(int s, int from, int t, int to, int n) {
        if (!isSheet(s) || !isSheet(t)) {
            return finding(BEYOND);
        }
        if (sheets[s].isMissing() || sheets[t].isMissing()) {
            return finding(MISSING);
        }
        if (sheets[s].bits != sheets[t].bits) {
            return finding(KIND);
        }
        if (!sheets[s].hasRun(from, n) || !sheets[t].hasRun(to, n)) {
            return finding(BEYOND);
        }
        System.arraycopy(sheets[s].numbers, from, sheets[t].numbers, to, n);
        return n;
    }

    public int read(int s) {
        if (!isSheet(s)) {
            return finding(BEYOND);
        }
        Sheet sheet = sheets[s];
        if (sheet.isMissing()) {
            return finding(MISSING);
        }
        if (sheet.size > slices.size || sheet.hasAbove(MOST_OFFERED)) {
            return finding(BEYOND);
        }
        return slices.wouldOverflow(sheet) ? finding(FULL) : slices.offerAll(sheet);
    }

    public int told(int what) {
        switch (what) {
            case 0: return net.nodes;
            case 1: return net.lines;
            case 2: return slices.size;
            case 3: return slices.countIn();
            case 4: return day.tick;
            case 5: return findings;
            case 6: return day.passed;
            case 7: return day.paid;
            default: return finding(BEYOND);
        }
    }

    // ---- what the calls share

    private int finding(int which) {
        findings++;
        return which;
    }

    private void comeIn(Slice s, int place) {
        s.place = place;
        book.enter(net, s, place, s.ticks, 1);
    }

    private void goOut(Slice s) {
        book.enter(net, s, s.place, s.ticks, -1);
        s.place = 0;
    }

    /** Which of 0, 3 and 4 why() answers of a SLICE that has PLACES all of whose LINES are UP. */
    private int whyNoRoom(Slice s, Places places) {
        int answer = 3;
        for (int p = 0; p < places.upSize; p++) {
            int place = places.upAt(p);
            if (book.linesHold(net, s, place, s.ticks)) {
                answer = 4;
                if (book.hostHolds(net, s, place, s.ticks)) {
                    return 0;
                }
            }
        }
        return answer;
    }

    /** Puts what was LAID in the stead of what is IN: how many that were IN have it otherwise now. */
    private int takeOver(int set) {
        int others = 0;
        for (int i = 0; i < slices.size; i++) {
            Slice s = slices.at(i);
            if (s.isIn()) {
                int now = has(set, i) ? layer.placeGot(i) : 0;
                others += now == s.place ? 0 : 1;
                goOut(s);
            }
        }
        for (int i = 0; i < slices.size; i++) {
            if (has(set, i)) {
                comeIn(slices.at(i), layer.placeGot(i));
            }
        }
        return others;
    }

    private static boolean isWithin(int v, int least, int most) {
        return v >= least && v <= most;
    }

    private static boolean isTick(int tick) {
        return isWithin(tick, 0, TICKS - 1);
    }

    private static boolean isKind(int kind) {
        return isWithin(kind, 0, KINDS - 1);
    }

    private static boolean isSheet(int s) {
        return isWithin(s, 0, MOST_SHEETS - 1);
    }

    private static boolean has(int set, int i) {
        return (set >> i & 1) != 0;
    }

    // A PLACE is one int: the set of the WAY's LINES, the set of the SPARE's, and the HOST. It is
    // told by LINES, not by the number of the WAY, since a new LINE may bring WAYS in between.
    // It is never 0, as a WAY has a LINE: 0 stands for no PLACE.

    private static int placeOn(int way, int spare, int host) {
        return way | spare << MOST_LINES | host << 2 * MOST_LINES;
    }

    private static int wayIn(int place) {
        return place & (1 << MOST_LINES) - 1;
    }

    private static int spareOf(int place) {
        return place >> MOST_LINES & (1 << MOST_LINES) - 1;
    }

    private static int linesOf(int place) {
        return wayIn(place) | spareOf(place);
    }

    private static int hostOf(int place) {
        return place >> 2 * MOST_LINES;
    }

    /** A LINE, with what passed over it; whether it is UP is kept by the net. */
    private static final class Line {
        int a;
        int b;
        int room;
        int late;
        int price;
        int passed;
        int latest;
        int earned;

        int otherEnd(int node) {
            if (node == a) {
                return b;
            }
            return node == b ? a : -1;
        }

        int leftNow() {
            return room - latest;
        }

        void pass(int units) {
            passed += units;
            latest += units;
            earned += units * price;
        }

        int tell(int what) {
            switch (what) {
                case 0: return a;
                case 1: return b;
                case 2: return room;
                case 3: return late;
                case 4: return price;
                case 6: return passed;
                case 7: return latest;
                default: return earned;
            }
        }
    }

    /** NODES and LINES. */
    private static final class Net {
        private final int[] workrooms = new int[MOST_NODES];
        private final Line[] row = new Line[MOST_LINES];
        private final Ways found = new Ways();
        int nodes;
        int lines;
        int down;

        Net() {
            for (int l = 0; l < MOST_LINES; l++) {
                row[l] = new Line();
            }
        }

        boolean hasNode(int node) {
            return node >= 0 && node < nodes;
        }

        boolean hasLine(int line) {
            return line >= 0 && line < lines;
        }

        boolean areTwoNodes(int a, int b) {
            return hasNode(a) && hasNode(b) && a != b;
        }

        Line lineAt(int line) {
            return row[line];
        }

        int workroomOf(int node) {
            return workrooms[node];
        }

        int addNode(int workroom) {
            workrooms[nodes] = workroom;
            nodes++;
            return nodes - 1;
        }

        int addLine(int a, int b, int room, int late, int price) {
            Line line = row[lines];
            line.a = a;
            line.b = b;
            line.room = room;
            line.late = late;
            line.price = price;
            lines++;
            return lines - 1;
        }

        boolean isUp(int set) {
            return (set & down) == 0;
        }

        /** Answers whether that is new. */
        boolean setUp(int line, boolean is) {
            boolean isNew = isUp(1 << line) != is;
            down = is ? down & ~(1 << line) : down | 1 << line;
            return isNew;
        }

        /** They stand in a row that the next call uses again. */
        Ways waysBetween(int a, int b) {
            found.find(this, a, b);
            return found;
        }

        int nodesOn(int set) {
            int met = 0;
            for (int l = 0; l < lines; l++) {
                if (has(set, l)) {
                    met |= 1 << row[l].a | 1 << row[l].b;
                }
            }
            return met;
        }

        /** LINE i of the WAY that a set of LINES makes from a NODE; -1 behind the last one. */
        int lineAlong(int from, int set, int i) {
            int at = from;
            int ahead = set;
            int line = -1;
            for (int step = 0; step <= i && step < MOST_LINES; step++) {
                line = lineFrom(at, ahead);
                if (line < 0) {
                    return -1;
                }
                at = row[line].otherEnd(at);
                ahead &= ~(1 << line);
            }
            return i < MOST_LINES ? line : -1;
        }

        private int lineFrom(int node, int set) {
            for (int l = 0; l < lines; l++) {
                if (has(set, l) && row[l].otherEnd(node) >= 0) {
                    return l;
                }
            }
            return -1;
        }
    }

    /**
     * The WAYS from a NODE to another one, in order. Each is one int, its key: LATENESS, then how
     * many LINES it has, then these, 4 bits each, the last one lowest; so WAYS are in order as
     * their keys are.
     */
    private static final class Ways {
        private static final int LINE_BITS = 4;
        private static final int COUNT_AT = LINE_BITS * MOST_HOPS;
        private static final int LATE_AT = COUNT_AT + 3;

        private final int[] keys = new int[MOST_WAYS];
        private int from = -1;
        private int to = -1;
        private int linesThen = -1;
        int size;

        static int lateOf(int key) {
            return key >> LATE_AT;
        }

        static int countOf(int key) {
            return key >> COUNT_AT & 7;
        }

        /** LINE k; -1 behind the last one. */
        static int lineAt(int key, int k) {
            int behind = countOf(key) - 1 - k;
            return behind < 0 ? -1 : key >> LINE_BITS * behind & 15;
        }

        static int linesIn(int key) {
            int set = 0;
            int rest = key;
            for (int left = countOf(key); left > 0; left--) {
                set |= 1 << (rest & 15);
                rest >>= LINE_BITS;
            }
            return set;
        }

        private static int longer(int key, int line, int late) {
            int linesSoFar = key & (1 << COUNT_AT) - 1;
            int others = key - linesSoFar + (late << LATE_AT) + (1 << COUNT_AT);
            return others | linesSoFar << LINE_BITS | line;
        }

        int keyAt(int i) {
            return keys[i];
        }

        void find(Net net, int a, int b) {
            // LINES only ever come, so as many as then are the same as then.
            if (a == from && b == to && net.lines == linesThen) {
                return;
            }
            from = a;
            to = b;
            linesThen = net.lines;
            size = 0;
            extend(this, net, a, 1 << a, 0, 0);
        }

        private static void extend(Ways ways, Net net, int at, int seen, int key, int depth) {
            if (at == ways.to) {
                ways.insert(key);
                return;
            }
            if (depth >= MOST_HOPS) {
                return;
            }
            for (int l = 0; l < net.lines; l++) {
                Line line = net.lineAt(l);
                int next = line.otherEnd(at);
                if (next >= 0 && !has(seen, next)) {
                    extend(ways, net, next, seen | 1 << next, longer(key, l, line.late), depth + 1);
                }
            }
        }

        private void insert(int key) {
            if (size >= MOST_WAYS) {
                return;
            }
            int i = size;
            while (i > 0 && keys[i - 1] > key) {
                keys[i] = keys[i - 1];
                i--;
            }
            keys[i] = key;
            size++;
        }
    }

    /** A SLICE: what was asked for, and what became of it. */
    private static final class Slice {
        int kind;
        int from;
        int to;
        int rate;
        int bound;
        int least;
        int work;
        int price;
        int first;
        int last;
        int hours;
        /** The set of TICKS at which it COUNTS. */
        int ticks;
        /** 0: it is not IN. */
        int place;
        int waiting;
        int passed;
        int lent;
        int paid;
        int latest;
        final Places places = new Places();

        void setTerms(int newLeast, int newWork, int newPrice) {
            least = newLeast;
            work = newWork;
            price = newPrice;
        }

        void setSpan(int newFirst, int newLast, int newHours) {
            first = newFirst;
            last = newLast;
            hours = newHours;
            ticks = 0;
            for (int t = first; t <= last && t < TICKS; t++) {
                if (kind != TIMED || has(hours, t % HOURS)) {
                    ticks |= 1 << t;
                }
            }
        }

        boolean isIn() {
            return place != 0;
        }

        boolean isOf(int wanted) {
            int k = kind;
            for (int step = 0; step < KINDS && k >= 0 && k < KINDS; step++) {
                if (k == wanted) {
                    return true;
                }
                k = ABOVE[k];
            }
            return false;
        }

        int needed() {
            if (kind == SHARED) {
                return 0;
            }
            return kind == ELASTIC ? least : rate;
        }

        /** The LINES of its TAKEN WAY, it being IN, when a set of LINES is DOWN; 0: there is none. */
        int takenWay(int down) {
            if ((wayIn(place) & down) == 0) {
                return wayIn(place);
            }
            // Of one that is not SURE, the SPARE has no LINES: 0.
            return (spareOf(place) & down) == 0 ? spareOf(place) : 0;
        }

        int askedFor(int what) {
            switch (what) {
                case 0: return kind;
                case 1: return from;
                case 2: return to;
                case 3: return rate;
                case 4: return bound;
                case 5: return least;
                case 6: return work;
                case 7: return price;
                case 8: return first;
                case 9: return last;
                default: return hours;
            }
        }

        int becameOf(int what) {
            switch (what) {
                case 11: return isIn() ? 1 : 0;
                case 12: return waiting;
                case 13: return passed;
                case 14: return lent;
                case 15: return paid;
                case 16: return latest;
                default: return needed();
            }
        }
    }

    private static final class Slices {
        private final Slice[] row = new Slice[MOST_SLICES];
        int size;

        Slices() {
            for (int i = 0; i < MOST_SLICES; i++) {
                row[i] = new Slice();
            }
        }

        boolean hasSlice(int slice) {
            return slice >= 0 && slice < size;
        }

        boolean haveAll(int set) {
            return set >= 0 && set < 1 << size;
        }

        Slice at(int slice) {
            return row[slice];
        }

        int add(int kind, int a, int b, int rate, int bound) {
            Slice s = row[size];
            s.kind = kind;
            s.from = a;
            s.to = b;
            s.rate = rate;
            s.bound = bound;
            s.setSpan(0, TICKS - 1, 0);
            size++;
            return size - 1;
        }

        Places placesOf(Net net, int slice) {
            Slice s = row[slice];
            s.places.find(net, s);
            return s.places;
        }

        int countIn() {
            int count = 0;
            for (int i = 0; i < size; i++) {
                count += row[i].isIn() ? 1 : 0;
            }
            return count;
        }

        boolean wouldOverflow(Sheet sheet) {
            for (int i = 0; i < sheet.size && i < size; i++) {
                if (row[i].waiting + sheet.unitsAt(i) > MOST_WAITING) {
                    return true;
                }
            }
            return false;
        }

        int offerAll(Sheet sheet) {
            int came = 0;
            for (int i = 0; i < sheet.size && i < size; i++) {
                row[i].waiting += sheet.unitsAt(i);
                came += sheet.unitsAt(i);
            }
            return came;
        }
    }

    /** The PLACES of a SLICE, in order, and those of them whose LINES are all UP. */
    private static final class Places {
        private int[] all = new int[0];
        private int[] kept = new int[0];
        private int linesThen = -1;
        int size;
        int upSize;

        int placeAt(int p) {
            return all[p];
        }

        int upAt(int p) {
            return kept[p];
        }

        void find(Net net, Slice s) {
            // Kind, ENDS and BOUND never change: only a new LINE brings other PLACES.
            if (net.lines == linesThen) {
                return;
            }
            linesThen = net.lines;
            Ways ways = net.waysBetween(s.from, s.to);
            gather(net, s, ways);
            if (size > all.length) {
                all = new int[size];
                kept = new int[size];
                gather(net, s, ways);
            }
        }

        void keepUp(Net net) {
            upSize = 0;
            for (int p = 0; p < size; p++) {
                if (net.isUp(linesOf(all[p]))) {
                    kept[upSize] = all[p];
                    upSize++;
                }
            }
        }

        /** Counts all, and keeps those for which there is room. */
        private void gather(Net net, Slice s, Ways ways) {
            size = 0;
            for (int i = 0; i < ways.size; i++) {
                int key = ways.keyAt(i);
                if (Ways.lateOf(key) > s.bound) {
                    return;
                }
                int way = Ways.linesIn(key);
                if (s.isOf(SURE)) {
                    gatherSpares(net, s, ways, way);
                } else {
                    gatherHosts(net, way, 0, net.nodesOn(way));
                }
            }
        }

        private void gatherSpares(Net net, Slice s, Ways ways, int way) {
            for (int j = 0; j < ways.size; j++) {
                int key = ways.keyAt(j);
                int spare = Ways.linesIn(key);
                if (Ways.lateOf(key) <= s.bound && (way & spare) == 0) {
                    gatherHosts(net, way, spare, net.nodesOn(way) & net.nodesOn(spare));
                }
            }
        }

        private void gatherHosts(Net net, int way, int spare, int hosts) {
            for (int node = 0; node < net.nodes; node++) {
                if (has(hosts, node)) {
                    if (size < all.length) {
                        all[size] = placeOn(way, spare, node);
                    }
                    size++;
                }
            }
        }
    }

    /**
     * LOADS, FALLROOMS and WORKS by TICK. ALL HOLDS of what is entered, so with one more SLICE
     * only LINES and HOST of that one are in question, at the TICKS at which it COUNTS.
     */
    private static final class Book {
        private final int[] loads = new int[TICKS * MOST_LINES];
        private final int[] falls = new int[TICKS * MOST_LINES];
        /** By TICK, by LINE of a SPARE, by LINE of a WAY: NEEDS of the SURE ones that have both. */
        private final int[] pairs = new int[TICKS * MOST_LINES * MOST_LINES];
        private final int[] works = new int[TICKS * MOST_NODES];
        /** How many TICKS it is kept for. */
        int ticks = TICKS;

        int loadAt(int line, int tick) {
            return loads[tick * MOST_LINES + line];
        }

        int fallAt(int line, int tick) {
            return falls[tick * MOST_LINES + line];
        }

        int worksAt(int node, int tick) {
            return works[tick * MOST_NODES + node];
        }

        int freeAt(Net net, int line, int tick) {
            return net.lineAt(line).room - loadAt(line, tick) - fallAt(line, tick);
        }

        /** Whether all LINES have room enough with one SLICE more, which COUNTS at a set of TICKS. */
        boolean linesHold(Net net, Slice s, int place, int when) {
            int need = s.needed();
            for (int t = 0; t < ticks; t++) {
                if (has(when, t) && !linesHoldAt(net, place, need, t)) {
                    return false;
                }
            }
            return true;
        }

        boolean hostHolds(Net net, Slice s, int place, int when) {
            int host = hostOf(place);
            int most = net.workroomOf(host) - s.work;
            for (int t = 0; t < ticks; t++) {
                if (has(when, t) && worksAt(host, t) > most) {
                    return false;
                }
            }
            return true;
        }

        private boolean linesHoldAt(Net net, int place, int need, int tick) {
            int way = wayIn(place);
            int spare = spareOf(place);
            for (int l = 0; l < net.lines; l++) {
                int left = net.lineAt(l).room - loadAt(l, tick);
                if (has(way, l) && need + fallAt(l, tick) > left) {
                    return false;
                }
                if (has(spare, l) && fallWith(l, way, need, tick) > left) {
                    return false;
                }
            }
            return true;
        }

        /** The FALLROOM of a LINE if one more SURE SLICE has it in its SPARE, with such a WAY. */
        private int fallWith(int line, int way, int need, int tick) {
            int spot = tick * MOST_LINES + line;
            int most = falls[spot];
            for (int f = 0; f < MOST_LINES; f++) {
                if (has(way, f)) {
                    most = Math.max(most, pairs[spot * MOST_LINES + f] + need);
                }
            }
            return most;
        }

        /** Puts a SLICE in with a PLACE (sign 1), or takes it out again (sign -1). */
        void enter(Net net, Slice s, int place, int when, int sign) {
            int need = s.needed() * sign;
            int host = hostOf(place);
            for (int t = 0; t < ticks; t++) {
                if (has(when, t)) {
                    enterLines(net, place, need, t);
                    works[t * MOST_NODES + host] += s.work * sign;
                }
            }
        }

        private void enterLines(Net net, int place, int need, int tick) {
            int way = wayIn(place);
            int spare = spareOf(place);
            for (int l = 0; l < net.lines; l++) {
                if (has(way, l)) {
                    loads[tick * MOST_LINES + l] += need;
                }
                if (has(spare, l)) {
                    enterFalls(l, way, need, tick);
                }
            }
        }

        private void enterFalls(int line, int way, int need, int tick) {
            int spot = tick * MOST_LINES + line;
            int most = 0;
            for (int f = 0; f < MOST_LINES; f++) {
                if (has(way, f)) {
                    pairs[spot * MOST_LINES + f] += need;
                }
                most = Math.max(most, pairs[spot * MOST_LINES + f]);
            }
            falls[spot] = most;
        }
    }

    /** THE CUT between two NODES, and how much it lets through. */
    private static final class Cut {
        private final int[] free = new int[MOST_LINES];
        int room;
        int set;

        void find(Net net, Book book, int a, int b, int tick) {
            for (int l = 0; l < net.lines; l++) {
                free[l] = net.isUp(1 << l) ? book.freeAt(net, l, tick) : 0;
            }
            set = 0;
            for (int nodes = 0; nodes < 1 << net.nodes; nodes++) {
                if (has(nodes, a) && !has(nodes, b)) {
                    weigh(nodes, roomOutOf(net, nodes));
                }
            }
        }

        private int roomOutOf(Net net, int nodes) {
            int sum = 0;
            for (int l = 0; l < net.lines; l++) {
                if (has(nodes, net.lineAt(l).a) != has(nodes, net.lineAt(l).b)) {
                    sum += free[l];
                }
            }
            return sum;
        }

        /** Two of the fewest NODES are never alike: of two least cuts what they share is one, too. */
        private void weigh(int nodes, int sum) {
            boolean less = set == 0 || sum < room
                    || sum == room && Integer.bitCount(nodes) < Integer.bitCount(set);
            if (less) {
                set = nodes;
                room = sum;
            }
        }
    }

    /** LAYS sets of SLICES, on a book of its own that is empty between two sets. */
    private static final class Layer {
        /** Each step is a TRY that held, or takes one such back. */
        private static final int MOST_STEPS = 10000;
        /** Above all PRICES together, so that a set's key is not below 0. */
        private static final int ABOVE_PRICES = 1000 * MOST_SLICES;

        private final Net net;
        private final Slices slices;
        private final Book trial = new Book();
        /** Unlike TICKS: the sets of SLICES that COUNT at one; TICKS with the same ones are alike. */
        private final int[] unlike = new int[TICKS];
        /** By SLICE: at which of the unlike TICKS it COUNTS. */
        private final int[] when = new int[MOST_SLICES];
        private final int[] members = new int[MOST_SLICES];
        private final int[] reached = new int[MOST_SLICES];
        private final int[] got = new int[MOST_SLICES];
        private final int[] keys = new int[MOST_SETS];
        private final int[] merged = new int[MOST_SETS];
        private int size;
        int asked;
        boolean spent;

        Layer(Net net, Slices slices) {
            this.net = net;
            this.slices = slices;
        }

        /** Ahead of the sets of one call, whose TRIES count together. */
        void begin() {
            asked = 0;
            spent = false;
            for (int i = 0; i < slices.size; i++) {
                slices.placesOf(net, i).keepUp(net);
            }
            findUnlikeTicks();
        }

        /** The PLACE that a SLICE got in the latest set, which could be LAID. */
        int placeGot(int slice) {
            return got[slice];
        }

        boolean laid(int set) {
            gatherMembers(set);
            int level = 0;
            for (int step = 0; step < MOST_STEPS && level >= 0 && level < size && !spent; step++) {
                int next = nextPlace(members[level], reached[level] + 1);
                if (next >= 0) {
                    reached[level] = next;
                    put(members[level], next);
                    level++;
                } else if (!spent) {
                    reached[level] = -1;
                    level--;
                    takeBack(level);
                }
            }
            boolean all = level == size;
            for (int l = 0; l < level; l++) {
                takeBack(l);
            }
            return all;
        }

        /** The dearest set that can be LAID; told only if it isn't SPENT. */
        int dearest() {
            int count = orderSets();
            for (int i = 0; i < count && !spent; i++) {
                int set = keys[i] & MOST_SETS - 1;
                if (laid(set)) {
                    return set;
                }
            }
            return 0;
        }

        private void findUnlikeTicks() {
            trial.ticks = 0;
            for (int i = 0; i < MOST_SLICES; i++) {
                when[i] = 0;
            }
            for (int t = 0; t < TICKS; t++) {
                int set = countingAt(t);
                if (!isKnown(set)) {
                    note(set);
                }
            }
        }

        private int countingAt(int tick) {
            int set = 0;
            for (int i = 0; i < slices.size; i++) {
                if (has(slices.at(i).ticks, tick)) {
                    set |= 1 << i;
                }
            }
            return set;
        }

        private boolean isKnown(int set) {
            for (int t = 0; t < trial.ticks; t++) {
                if (unlike[t] == set) {
                    return true;
                }
            }
            return false;
        }

        private void note(int set) {
            int tick = trial.ticks;
            unlike[tick] = set;
            for (int i = 0; i < slices.size; i++) {
                if (has(set, i)) {
                    when[i] |= 1 << tick;
                }
            }
            trial.ticks++;
        }

        private void gatherMembers(int set) {
            size = 0;
            for (int i = 0; i < slices.size; i++) {
                if (has(set, i)) {
                    members[size] = i;
                    reached[size] = -1;
                    size++;
                }
            }
        }

        /** The first PLACE from one on with which ALL HOLDS; -1: none, or it is SPENT. */
        private int nextPlace(int slice, int from) {
            Slice s = slices.at(slice);
            for (int p = from; p < s.places.upSize; p++) {
                if (asked >= MOST_TRIES) {
                    spent = true;
                    return -1;
                }
                asked++;
                int place = s.places.upAt(p);
                if (trial.linesHold(net, s, place, when[slice])
                        && trial.hostHolds(net, s, place, when[slice])) {
                    return p;
                }
            }
            return -1;
        }

        private void put(int slice, int p) {
            got[slice] = slices.at(slice).places.upAt(p);
            trial.enter(net, slices.at(slice), got[slice], when[slice], 1);
        }

        private void takeBack(int level) {
            if (level >= 0) {
                int slice = members[level];
                trial.enter(net, slices.at(slice), got[slice], when[slice], -1);
            }
        }

        /**
         * All sets, the dearest first, of like ones the least: how many. A set's key is less the
         * ahead it stands. Sets with one SLICE more stand in the order of those without it, so
         * the two rows need only be merged.
         */
        private int orderSets() {
            keys[0] = ABOVE_PRICES * MOST_SETS;
            int count = 1;
            for (int i = 0; i < slices.size; i++) {
                mergeShifted(count, (1 << i) - slices.at(i).price * MOST_SETS);
                count *= 2;
            }
            return count;
        }

        private void mergeShifted(int count, int shift) {
            int i = 0;
            int j = 0;
            for (int k = 0; k < 2 * count && k < MOST_SETS; k++) {
                boolean plain = j >= count || i < count && keys[i] < keys[j] + shift;
                merged[k] = plain ? keys[i] : keys[j] + shift;
                i += plain ? 1 : 0;
                j += plain ? 0 : 1;
            }
            for (int k = 0; k < 2 * count && k < MOST_SETS; k++) {
                keys[k] = merged[k];
            }
        }
    }

    /** THE DAY. */
    private static final class Day {
        /** Above what a TICK can need: a round of all SLICES for each unit that their RATES let pass. */
        private static final int MOST_STEPS = 10000;

        private final Net net;
        private final Slices slices;
        private int lentTo = -1;
        int tick;
        int passed;
        int paid;

        Day(Net net, Slices slices) {
            this.net = net;
            this.slices = slices;
        }

        void doTick() {
            forgetLatest();
            passNeeds();
            lend();
            tick = (tick + 1) % TICKS;
        }

        private void forgetLatest() {
            for (int l = 0; l < net.lines; l++) {
                net.lineAt(l).latest = 0;
            }
            for (int i = 0; i < slices.size; i++) {
                slices.at(i).latest = 0;
            }
        }

        private void passNeeds() {
            for (int i = 0; i < slices.size; i++) {
                Slice s = slices.at(i);
                int taken = wayNow(s);
                if (taken != 0) {
                    pass(s, taken, Math.min(Math.min(s.waiting, s.needed()), leftOn(taken)));
                }
            }
        }

        private void lend() {
            int idle = 0;
            int i = lentTo;
            for (int step = 0; step < MOST_STEPS && idle < slices.size; step++) {
                i = i + 1 < slices.size ? i + 1 : 0;
                Slice s = slices.at(i);
                if (canBorrow(s)) {
                    pass(s, wayNow(s), 1);
                    s.lent++;
                    lentTo = i;
                    idle = 0;
                } else {
                    idle++;
                }
            }
        }

        private boolean canBorrow(Slice s) {
            if (!s.isOf(ELASTIC) || s.waiting <= 0 || s.latest >= s.rate) {
                return false;
            }
            int taken = wayNow(s);
            return taken != 0 && leftOn(taken) > 0;
        }

        /** The LINES of the TAKEN WAY of a SLICE that is IN and COUNTS now; 0: there are none. */
        private int wayNow(Slice s) {
            return s.isIn() && has(s.ticks, tick) ? s.takenWay(net.down) : 0;
        }

        private int leftOn(int taken) {
            int least = MOST_WAITING;
            for (int l = 0; l < net.lines; l++) {
                if (has(taken, l)) {
                    least = Math.min(least, net.lineAt(l).leftNow());
                }
            }
            return least;
        }

        private void pass(Slice s, int taken, int units) {
            int price = 0;
            for (int l = 0; l < net.lines; l++) {
                if (has(taken, l)) {
                    net.lineAt(l).pass(units);
                    price += net.lineAt(l).price;
                }
            }
            s.waiting -= units;
            s.passed += units;
            s.latest += units;
            s.paid += units * price;
            passed += units;
            paid += units * price;
        }
    }

    /** A SHEET; of no bits while it is MISSING. */
    private static final class Sheet {
        final int[] numbers = new int[MOST_NUMBERS];
        int bits;
        int size;

        boolean isMissing() {
            return bits == 0;
        }

        int begin(int newBits, int n) {
            bits = newBits;
            size = newBits == 0 ? 0 : n;
            for (int i = 0; i < MOST_NUMBERS; i++) {
                numbers[i] = 0;
            }
            return size;
        }

        int put(int i, int v) {
            int was = numbers[i];
            numbers[i] = lowest(v);
            return was;
        }

        private int lowest(int v) {
            if (bits == 8) {
                return (byte) v;
            }
            return bits == 16 ? (short) v : v;
        }

        boolean hasRun(int from, int n) {
            return from >= 0 && n >= 0 && from <= size && n <= size - from;
        }

        boolean hasAbove(int most) {
            for (int i = 0; i < size; i++) {
                if (numbers[i] > most) {
                    return true;
                }
            }
            return false;
        }

        int unitsAt(int i) {
            return Math.max(numbers[i], 0);
        }
    }
}
