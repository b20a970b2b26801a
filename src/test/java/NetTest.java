/** Promises 1 to 8: a new object, and the net. */
public final class NetTest {
    private static final int BEYOND = -1000001;
    private static final int FULL = -1000002;
    private static final int NONE = -1000005;
    private static final int MISSING = -1000007;
    private static final int MIN = Integer.MIN_VALUE;
    private static final int MAX = Integer.MAX_VALUE;

    private static final Due DUE = new Due("NetTest");

    public static void main(String[] args) {
        promise1NewObject();
        promise2Node();
        promise3Line();
        promise4Up();
        promise5Ways();
        promise6WayOrder();
        promise6WayEdges();
        promises5And6MostWays();
        promise7Flow();
        promise7FlowLessLoadAndFallRoom();
        promise8Cut();
        DUE.end();
    }

    private static void promise1NewObject() {
        SliceSeller x = new SliceSeller();
        for (int what = 0; what <= 7; what++) {
            DUE.is("1: told(" + what + ")", x.told(what), 0);
        }
        DUE.is("1: tries()", x.tries(), 0);
        for (int s = 0; s < 4; s++) {
            DUE.is("1: read(" + s + ")", x.read(s), MISSING);
        }
        DUE.is("1: best()", x.best(), 0);
        DUE.is("1: lay(0)", x.lay(0), 0);
        DUE.is("1: took(-1)", x.took(-1), 0);
        DUE.is("1: run(24)", x.run(24), 0);
        DUE.is("1: told(4)", x.told(4), 0);
        DUE.is("1: told(5)", x.told(5), 4);
    }

    private static void promise2Node() {
        SliceSeller x = new SliceSeller();
        DUE.is("2: node(-1)", x.node(-1), BEYOND);
        DUE.is("2: node(101)", x.node(101), BEYOND);
        DUE.is("2: node(min)", x.node(MIN), BEYOND);
        DUE.is("2: node(max)", x.node(MAX), BEYOND);
        DUE.is("2: told(0)", x.told(0), 0);
        int[] works = {0, 100, 1, 99, 50, 7};
        for (int i = 0; i < 6; i++) {
            DUE.is("2: node " + i, x.node(works[i]), i);
            DUE.is("2: told(0)", x.told(0), i + 1);
        }
        DUE.is("2: a seventh one", x.node(5), FULL);
        DUE.is("2: BEYOND comes ahead of FULL", x.node(101), BEYOND);
        DUE.is("2: told(0)", x.told(0), 6);
        DUE.is("2: told(5)", x.told(5), 6);
    }

    private static void promise3Line() {
        SliceSeller x = new SliceSeller();
        DUE.is("3: no NODES", x.line(0, 1, 1, 1, 0), BEYOND);
        x.node(0);
        x.node(0);
        int[][] wrong = {{0, 0, 1, 1, 0}, {-1, 0, 1, 1, 0}, {0, -1, 1, 1, 0}, {2, 0, 1, 1, 0}, {0, 2, 1, 1, 0},
            {0, 1, 0, 1, 0}, {0, 1, 51, 1, 0}, {0, 1, -1, 1, 0}, {0, 1, 1, 0, 0}, {0, 1, 1, 10, 0},
            {0, 1, 1, 1, -1}, {0, 1, 1, 1, 10}, {MIN, MAX, 1, 1, 0}, {0, 1, MAX, MIN, MAX}};
        for (int[] w : wrong) {
            DUE.is("3: wrong " + java.util.Arrays.toString(w), x.line(w[0], w[1], w[2], w[3], w[4]), BEYOND);
        }
        DUE.is("3: told(1)", x.told(1), 0);
        DUE.is("3: least numbers", x.line(0, 1, 1, 1, 0), 0);
        DUE.is("3: greatest numbers", x.line(1, 0, 50, 9, 9), 1);
        DUE.is("3: a", x.about(1, 0), 1);
        DUE.is("3: b", x.about(1, 1), 0);
        DUE.is("3: ROOM", x.about(1, 2), 50);
        DUE.is("3: LATE", x.about(1, 3), 9);
        DUE.is("3: PRICE", x.about(1, 4), 9);
        DUE.is("3: UP at first", x.about(1, 5), 1);
        for (int i = 2; i < 9; i++) {
            DUE.is("3: line " + i, x.line(0, 1, 5, 5, 5), i);
        }
        DUE.is("3: a tenth one", x.line(0, 1, 5, 5, 5), FULL);
        DUE.is("3: BEYOND comes ahead of FULL", x.line(0, 0, 5, 5, 5), BEYOND);
        DUE.is("3: told(1)", x.told(1), 9);
    }

    private static void promise4Up() {
        SliceSeller x = new SliceSeller();
        DUE.is("4: no LINE", x.up(0, false), BEYOND);
        x.node(0);
        x.node(0);
        x.line(0, 1, 1, 1, 0);
        x.line(0, 1, 1, 1, 0);
        DUE.is("4: it is UP", x.up(1, true), 0);
        DUE.is("4: DOWN is new", x.up(1, false), 1);
        DUE.is("4: about(1, 5)", x.about(1, 5), 0);
        DUE.is("4: the other one", x.about(0, 5), 1);
        DUE.is("4: DOWN is not new", x.up(1, false), 0);
        DUE.is("4: UP is new", x.up(1, true), 1);
        DUE.is("4: about(1, 5)", x.about(1, 5), 1);
        DUE.is("4: up(-1)", x.up(-1, true), BEYOND);
        DUE.is("4: up(2)", x.up(2, true), BEYOND);
        DUE.is("4: up(33)", x.up(33, false), BEYOND);
        DUE.is("4: told(5)", x.told(5), 4);
    }

    /** A ring of four NODES with one LINE across: 0-1-2-3-0 and 1-3. */
    private static SliceSeller ring() {
        SliceSeller x = new SliceSeller();
        for (int i = 0; i < 4; i++) {
            x.node(10);
        }
        x.line(0, 1, 9, 3, 1);
        x.line(1, 2, 8, 1, 1);
        x.line(2, 3, 7, 1, 1);
        x.line(3, 0, 6, 3, 1);
        x.line(1, 3, 5, 2, 1);
        return x;
    }

    private static void promise5Ways() {
        SliceSeller x = ring();
        DUE.is("5: ways(0, 2)", x.ways(0, 2), 4);
        DUE.is("5: ways(2, 0)", x.ways(2, 0), 4);
        DUE.is("5: ways(1, 3)", x.ways(1, 3), 3);
        x.up(0, false);
        DUE.is("5: whatever is DOWN", x.ways(0, 2), 4);
        x.node(0);
        DUE.is("5: a NODE without LINES", x.ways(0, 4), 0);
        x.line(4, 2, 1, 1, 1);
        DUE.is("5: a new LINE", x.ways(0, 4), 4);
        DUE.is("5: and between others", x.ways(0, 2), 4);
        DUE.is("5: one NODE", x.ways(1, 1), BEYOND);
        DUE.is("5: ways(-1, 0)", x.ways(-1, 0), BEYOND);
        DUE.is("5: ways(0, 5)", x.ways(0, 5), BEYOND);
        DUE.is("5: ways(5, 0)", x.ways(5, 0), BEYOND);
    }

    private static void dueWay(SliceSeller x, int a, int b, int i, int... want) {
        for (int k = 0; k < want.length; k++) {
            String call = "6: way(" + a + ", " + b + ", " + i + ", " + (k - 1) + ")";
            DUE.is(call, x.way(a, b, i, k - 1), want[k]);
        }
        DUE.is("6: behind the last one", x.way(a, b, i, want.length - 1), -1);
    }

    private static void promise6WayOrder() {
        SliceSeller x = ring();
        // Both of LATENESS 4 and two LINES: by the first LINE; then 6 and three LINES each.
        dueWay(x, 0, 2, 0, 4, 0, 1);
        dueWay(x, 0, 2, 1, 4, 3, 2);
        dueWay(x, 0, 2, 2, 6, 0, 4, 2);
        dueWay(x, 0, 2, 3, 6, 3, 4, 1);
        // From the other end the order is another one.
        dueWay(x, 2, 0, 0, 4, 1, 0);
        dueWay(x, 2, 0, 2, 6, 1, 4, 3);
        dueWay(x, 2, 0, 3, 6, 2, 4, 0);
        // Of like LATENESS the one with fewer LINES comes first, though its LINE has the greater number.
        dueWay(x, 1, 3, 0, 2, 4);
        dueWay(x, 1, 3, 1, 2, 1, 2);
        dueWay(x, 1, 3, 2, 6, 0, 3);
        // LATENESS comes ahead of how many LINES there are.
        x.line(0, 2, 1, 5, 0);
        dueWay(x, 0, 2, 2, 5, 5);
        dueWay(x, 0, 2, 3, 6, 0, 4, 2);
        DUE.is("6: told(5)", x.told(5), 0);
    }

    private static void promise6WayEdges() {
        SliceSeller x = ring();
        DUE.is("6: i behind the last WAY", x.way(0, 2, 4, 0), NONE);
        DUE.is("6: i behind the last WAY, k -1", x.way(0, 2, MAX, -1), NONE);
        DUE.is("6: k far behind", x.way(0, 2, 0, MAX), -1);
        DUE.is("6: i below 0", x.way(0, 2, -1, 0), BEYOND);
        DUE.is("6: k below -1", x.way(0, 2, 0, -2), BEYOND);
        DUE.is("6: k below -1 comes ahead of NONE", x.way(0, 2, 9, MIN), BEYOND);
        DUE.is("6: one NODE", x.way(2, 2, 0, 0), BEYOND);
        DUE.is("6: no such NODE", x.way(0, 4, 0, 0), BEYOND);
        DUE.is("6: no such NODE", x.way(MIN, 0, 0, 0), BEYOND);
        DUE.is("6: told(5)", x.told(5), 8);
    }

    private static void promises5And6MostWays() {
        SliceSeller x = new SliceSeller();
        for (int i = 0; i < 6; i++) {
            x.node(0);
        }
        for (int i = 0; i < 9; i++) {
            x.line(i % 3, i % 3 + 1, 1, 1, 0);
        }
        DUE.is("5: three hops of three LINES", x.ways(0, 3), 27);
        dueWay(x, 0, 3, 0, 3, 0, 1, 2);
        dueWay(x, 0, 3, 13, 3, 3, 4, 5);
        dueWay(x, 0, 3, 26, 3, 6, 7, 8);
        SliceSeller y = new SliceSeller();
        for (int i = 0; i < 6; i++) {
            y.node(0);
        }
        for (int i = 0; i < 5; i++) {
            y.line(4 - i, 5 - i, 1, 9, 0);
        }
        dueWay(y, 0, 5, 0, 45, 4, 3, 2, 1, 0);
        dueWay(y, 5, 0, 0, 45, 0, 1, 2, 3, 4);
    }

    private static void promise7Flow() {
        SliceSeller x = ring();
        DUE.is("7: flow(0, 2)", x.flow(0, 2, 0), 15);
        DUE.is("7: flow(2, 0)", x.flow(2, 0, 23), 15);
        DUE.is("7: flow(1, 3)", x.flow(1, 3, 12), 5 + 7 + 6);
        x.up(4, false);
        DUE.is("7: less what is DOWN", x.flow(0, 2, 0), 8 + 6);
        x.up(0, false);
        DUE.is("7: less what is DOWN", x.flow(0, 2, 0), 6);
        x.up(3, false);
        DUE.is("7: no WAY is left", x.flow(0, 2, 0), 0);
        DUE.is("7: tick 24", x.flow(0, 2, 24), BEYOND);
        DUE.is("7: tick -1", x.flow(0, 2, -1), BEYOND);
        DUE.is("7: one NODE", x.flow(3, 3, 0), BEYOND);
        DUE.is("7: no such NODE", x.flow(0, 4, 0), BEYOND);
        DUE.is("7: no such NODE", x.flow(-1, 0, 0), BEYOND);
        // A LINE is used from either of its NODES on: 0-1-2-3, the one between against its order.
        SliceSeller y = new SliceSeller();
        for (int i = 0; i < 4; i++) {
            y.node(0);
        }
        y.line(0, 1, 5, 1, 0);
        y.line(2, 1, 4, 1, 0);
        y.line(2, 3, 3, 1, 0);
        DUE.is("7: against a LINE's order", y.flow(0, 3, 0), 3);
        DUE.is("7: against a LINE's order", y.flow(0, 2, 0), 4);
    }

    private static void promise7FlowLessLoadAndFallRoom() {
        SliceSeller x = ring();
        x.slice(1, 0, 2, 4, 9);
        x.span(0, 5, 6, 0);
        DUE.is("7: letIn(0)", x.letIn(0), 0);
        // The WAY takes 4 of LINES 0 and 1, the SPARE holds 4 of LINES 3 and 2 free.
        DUE.is("7: while it COUNTS", x.flow(0, 2, 5), 5 + 2);
        DUE.is("7: when it does not", x.flow(0, 2, 7), 15);
        DUE.is("7: when it does not", x.flow(0, 2, 4), 15);
    }

    private static void promise8Cut() {
        SliceSeller x = ring();
        DUE.is("8: cut(0, 2): 15 come out of 0, and go into 2", x.cut(0, 2, 0), 1);
        DUE.is("8: cut(2, 0)", x.cut(2, 0, 0), 4);
        x.up(4, false);
        // 0-1 lets 9 through, 1-2 but 8; 2-3 7, 3-0 but 6.
        DUE.is("8: cut(0, 2)", x.cut(0, 2, 0), 1 | 2);
        DUE.is("8: cut(2, 0)", x.cut(2, 0, 0), 4 | 8);
        x.up(1, false);
        x.up(3, false);
        DUE.is("8: nothing goes, the NODES that can be reached", x.cut(0, 2, 0), 1 | 2);
        DUE.is("8: nothing goes, the NODES that can be reached", x.cut(2, 0, 0), 4 | 8);
        x.up(0, false);
        DUE.is("8: nothing is reached", x.cut(0, 2, 0), 1);
        x.up(0, true);
        x.slice(0, 0, 1, 9, 3);
        x.letIn(0);
        DUE.is("8: LINE 0 is full", x.cut(0, 2, 0), 1);
        DUE.is("8: tick 24", x.cut(0, 2, 24), BEYOND);
        DUE.is("8: tick -1", x.cut(0, 2, -1), BEYOND);
        DUE.is("8: one NODE", x.cut(0, 0, 0), BEYOND);
        DUE.is("8: no such NODE", x.cut(4, 0, 0), BEYOND);
        DUE.is("8: no such NODE", x.cut(0, MIN, 0), BEYOND);
    }
}
