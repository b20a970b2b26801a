/** Promises 9 to 24: slices. */
public final class SlicesTest {
    private static final int BEYOND = -1000001;
    private static final int FULL = -1000002;
    private static final int STATE = -1000003;
    private static final int KIND = -1000004;
    private static final int NONE = -1000005;
    private static final int MIN = Integer.MIN_VALUE;
    private static final int MAX = Integer.MAX_VALUE;

    private static final Due DUE = new Due("SlicesTest");

    public static void main(String[] args) {
        promise9Slice();
        promise10Terms();
        promise11Span();
        promise12As();
        promise13Of();
        promise14Places();
        promise14PlacesOfSure();
        promise15LetIn();
        promise15NumberAmongAllPlaces();
        promise16Why();
        promise17Out();
        promise18WayOf();
        promise19Host();
        promise20Load();
        promise21FallRoom();
        promise21SharedBetweenFalls();
        promise22Work();
        promise23Spare();
        promise24Took();
        promise21FallOfLine0();
        placesStayWhenLinesCome();
        allThereCanBe();
        DUE.end();
    }

    /** Two NODES with so many LINES between them, LINE i of ROOM and LATE as told. */
    private static SliceSeller pair(int lines, int room, int work) {
        SliceSeller x = new SliceSeller();
        x.node(work);
        x.node(work);
        for (int i = 0; i < lines; i++) {
            x.line(0, 1, room, 1 + i, i);
        }
        return x;
    }

    private static void promise9Slice() {
        SliceSeller x = new SliceSeller();
        DUE.is("9: no NODES", x.slice(0, 0, 1, 1, 1), BEYOND);
        x.node(0);
        x.node(0);
        int[][] wrong = {{-1, 0, 1, 1, 1}, {5, 0, 1, 1, 1}, {0, 0, 0, 1, 1}, {0, 2, 1, 1, 1}, {0, 0, 2, 1, 1},
            {0, -1, 1, 1, 1}, {0, 0, -1, 1, 1}, {0, 0, 1, 0, 1}, {0, 0, 1, 21, 1}, {0, 0, 1, 1, 0},
            {0, 0, 1, 1, 100}, {MAX, MIN, MAX, MIN, MAX}};
        for (int[] w : wrong) {
            DUE.is("9: wrong " + java.util.Arrays.toString(w), x.slice(w[0], w[1], w[2], w[3], w[4]), BEYOND);
        }
        DUE.is("9: told(2)", x.told(2), 0);
        for (int i = 0; i < 8; i++) {
            DUE.is("9: slice " + i, x.slice(i % 5, i % 2, 1 - i % 2, i == 0 ? 1 : 20, i == 0 ? 1 : 99), i);
            DUE.is("9: it is not IN", x.of(i, 11), 0);
        }
        DUE.is("9: told(2)", x.told(2), 8);
        DUE.is("9: a ninth one", x.slice(0, 0, 1, 1, 1), FULL);
        DUE.is("9: BEYOND comes ahead of FULL", x.slice(0, 0, 0, 1, 1), BEYOND);
    }

    private static void promise10Terms() {
        SliceSeller x = pair(1, 10, 20);
        DUE.is("10: no such SLICE", x.terms(0, 0, 0, 0), BEYOND);
        x.slice(2, 0, 1, 7, 9);
        int[][] wrong = {{-1, 0, 0, 0}, {1, 0, 0, 0}, {0, -1, 0, 0}, {0, 8, 0, 0}, {0, 0, -1, 0}, {0, 0, 21, 0},
            {0, 0, 0, -1}, {0, 0, 0, 1001}, {0, MIN, MAX, MIN}};
        for (int[] w : wrong) {
            DUE.is("10: wrong " + java.util.Arrays.toString(w), x.terms(w[0], w[1], w[2], w[3]), BEYOND);
        }
        DUE.is("10: LEAST", x.of(0, 5), 0);
        DUE.is("10: greatest numbers", x.terms(0, 7, 20, 1000), 1);
        DUE.is("10: LEAST", x.of(0, 5), 7);
        DUE.is("10: WORK", x.of(0, 6), 20);
        DUE.is("10: PRICE", x.of(0, 7), 1000);
        DUE.is("10: NEED", x.of(0, 17), 7);
        DUE.is("10: letIn", x.letIn(0), 0);
        DUE.is("10: it is IN", x.terms(0, 0, 0, 0), STATE);
        DUE.is("10: BEYOND comes ahead of STATE", x.terms(0, 8, 0, 0), BEYOND);
        DUE.is("10: nothing changed", x.of(0, 5), 7);
        x.out(0);
        DUE.is("10: it is out", x.terms(0, 1, 2, 3), 1);
        DUE.is("10: LEAST", x.of(0, 5), 1);
        DUE.is("10: WORK", x.of(0, 6), 2);
        DUE.is("10: PRICE", x.of(0, 7), 3);
    }

    private static void promise11Span() {
        SliceSeller x = pair(1, 10, 20);
        DUE.is("11: no such SLICE", x.span(0, 0, 0, 0), BEYOND);
        x.slice(4, 0, 1, 7, 9);
        int[][] wrong = {{-1, 0, 0, 0}, {1, 0, 0, 0}, {0, -1, 0, 0}, {0, 0, 24, 0}, {0, 24, 24, 0}, {0, 5, 4, 0},
            {0, 0, 0, -1}, {0, 0, 0, 64}, {0, MIN, MAX, 0}, {0, 0, 0, MAX}};
        for (int[] w : wrong) {
            DUE.is("11: wrong " + java.util.Arrays.toString(w), x.span(w[0], w[1], w[2], w[3]), BEYOND);
        }
        DUE.is("11: FIRST", x.of(0, 8), 0);
        DUE.is("11: LAST", x.of(0, 9), 23);
        DUE.is("11: HOURS", x.of(0, 10), 0);
        DUE.is("11: one TICK, all HOURS", x.span(0, 23, 23, 63), 1);
        DUE.is("11: FIRST", x.of(0, 8), 23);
        DUE.is("11: LAST", x.of(0, 9), 23);
        DUE.is("11: HOURS", x.of(0, 10), 63);
        DUE.is("11: two TICKS", x.span(0, 22, 23, 1 << 4), 1);
        x.letIn(0);
        DUE.is("11: it COUNTS at 22", x.load(0, 22), 7);
        DUE.is("11: it does not at 23", x.load(0, 23), 0);
        DUE.is("11: it is IN", x.span(0, 0, 23, 0), STATE);
        DUE.is("11: BEYOND comes ahead of STATE", x.span(0, 1, 0, 0), BEYOND);
        DUE.is("11: nothing changed", x.of(0, 8), 22);
    }

    private static void promise12As() {
        SliceSeller x = pair(1, 10, 20);
        DUE.is("12: no such SLICE", x.as(0, 0), BEYOND);
        for (int kind = 0; kind < 5; kind++) {
            x.slice(kind, 0, 1, 1, 1);
        }
        boolean[][] is = {{true, false, false, false, false}, {true, true, false, false, false},
            {true, false, true, false, false}, {true, false, true, true, false}, {true, false, false, false, true}};
        for (int s = 0; s < 5; s++) {
            for (int kind = 0; kind < 5; kind++) {
                DUE.is("12: as(" + s + ", " + kind + ")", x.as(s, kind), is[s][kind] ? s : KIND);
            }
        }
        DUE.is("12: kind 5", x.as(0, 5), BEYOND);
        DUE.is("12: kind -1", x.as(0, -1), BEYOND);
        DUE.is("12: slice 5", x.as(5, 0), BEYOND);
        DUE.is("12: slice -1", x.as(-1, 0), BEYOND);
    }

    private static void promise13Of() {
        SliceSeller x = pair(2, 10, 20);
        DUE.is("13: no such SLICE", x.of(0, 0), BEYOND);
        x.slice(2, 1, 0, 9, 77);
        x.terms(0, 3, 4, 55);
        x.span(0, 0, 22, 21);
        int[] due = {2, 1, 0, 9, 77, 3, 4, 55, 0, 22, 21, 0, 0, 0, 0, 0, 0, 3};
        for (int what = 0; what < 18; what++) {
            DUE.is("13: of(0, " + what + ")", x.of(0, what), due[what]);
        }
        x.letIn(0);
        DUE.is("13: it is IN", x.of(0, 11), 1);
        x.out(0);
        x.up(0, false);
        x.letIn(0);
        x.offer(0, 20);
        x.run(2);
        // 9 in each TICK over LINE 1 of PRICE 1, 3 of its own and 6 LENT.
        int[] then = {2, 18, 12, 18, 9};
        for (int what = 12; what < 17; what++) {
            DUE.is("13: of(0, " + what + ")", x.of(0, what), then[what - 12]);
        }
        x.run(1);
        DUE.is("13: in the latest TICK", x.of(0, 16), 2);
        DUE.is("13: what 18", x.of(0, 18), BEYOND);
        DUE.is("13: what -1", x.of(0, -1), BEYOND);
        DUE.is("13: slice 1", x.of(1, 0), BEYOND);
        DUE.is("13: slice -1", x.of(-1, 0), BEYOND);
        for (int kind = 0; kind < 5; kind++) {
            x.slice(kind, 0, 1, 10 + kind, 1);
            x.terms(kind + 1, 5, 0, 0);
            DUE.is("13: NEED of kind " + kind, x.of(kind + 1, 17), new int[] {10, 11, 5, 0, 14}[kind]);
            DUE.is("13: LEAST of kind " + kind, x.of(kind + 1, 5), 5);
        }
    }

    /** 0-1-2 by LINES 0 and 1, LATE 2 each; 0-2 by LINE 2, LATE 5; 0-2 by LINE 3, LATE 9. */
    private static SliceSeller triangle(int work) {
        SliceSeller x = new SliceSeller();
        for (int i = 0; i < 3; i++) {
            x.node(work);
        }
        x.line(0, 1, 10, 2, 1);
        x.line(1, 2, 10, 2, 2);
        x.line(0, 2, 6, 5, 3);
        x.line(0, 2, 4, 9, 4);
        return x;
    }

    private static void promise14Places() {
        SliceSeller x = triangle(9);
        DUE.is("14: no such SLICE", x.places(0), BEYOND);
        int[] bounds = {3, 4, 5, 8, 9, 99};
        int[] due = {0, 3, 5, 5, 7, 7};
        for (int i = 0; i < 6; i++) {
            x.slice(i % 2 * 2, 0, 2, 5, bounds[i]);
            DUE.is("14: BOUND " + bounds[i], x.places(i), due[i]);
        }
        x.up(0, false);
        DUE.is("14: whatever is DOWN", x.places(1), 3);
        x.slice(0, 0, 2, 20, 99);
        DUE.is("14: whether ALL HOLDS or not", x.places(6), 7);
        DUE.is("14: places(-1)", x.places(-1), BEYOND);
        DUE.is("14: places(7)", x.places(7), BEYOND);
        x.line(2, 0, 1, 1, 1);
        DUE.is("14: a new LINE", x.places(0), 2);
        DUE.is("14: a new LINE", x.places(6), 9);
    }

    private static void promise14PlacesOfSure() {
        SliceSeller x = triangle(9);
        x.slice(1, 0, 2, 1, 4);
        x.slice(1, 0, 2, 1, 5);
        x.slice(1, 0, 2, 1, 9);
        DUE.is("14: no SPARE within the BOUND", x.places(0), 0);
        DUE.is("14: two WAYS, the HOST an END", x.places(1), 4);
        DUE.is("14: three WAYS", x.places(2), 12);
        // 1-2 with SPARE 1-0-2: all three NODES on the SPARE, two on the WAY.
        x.slice(1, 1, 2, 1, 7);
        DUE.is("14: WAY and SPARE share two NODES", x.places(3), 4);
        SliceSeller y = new SliceSeller();
        for (int i = 0; i < 4; i++) {
            y.node(1);
        }
        for (int i = 0; i < 9; i++) {
            y.line(i % 3, i % 3 + 1, 1, 1, 0);
        }
        y.slice(1, 0, 3, 1, 9);
        DUE.is("14: 27 WAYS, 8 SPARES each, 4 HOSTS", y.places(0), 864);
    }

    private static void promise15LetIn() {
        SliceSeller x = triangle(9);
        DUE.is("15: no such SLICE", x.letIn(0), BEYOND);
        x.slice(0, 0, 2, 6, 9);
        x.terms(0, 0, 9, 0);
        x.slice(0, 0, 2, 6, 9);
        x.terms(1, 0, 5, 0);
        x.slice(0, 0, 2, 3, 9);
        DUE.is("15: the first PLACE", x.letIn(0), 0);
        DUE.is("15: it is IN", x.letIn(0), STATE);
        // LINE 0 has but 4 left, and NODE 0 no work: LINE 2 and HOST 2.
        DUE.is("15: another WAY and HOST", x.letIn(1), 4);
        DUE.is("15: host(1)", x.host(1), 2);
        DUE.is("15: wayOf(1)", x.wayOf(1, false, 0), 2);
        DUE.is("15: four are left of the first WAY", x.letIn(2), 0);
        x.slice(0, 0, 2, 5, 9);
        DUE.is("15: no PLACE", x.letIn(3), NONE);
        DUE.is("15: it is not IN", x.of(3, 11), 0);
        x.slice(0, 0, 2, 4, 9);
        DUE.is("15: the last WAY, just filled", x.letIn(4), 5);
        DUE.is("15: letIn(-1)", x.letIn(-1), BEYOND);
        DUE.is("15: letIn(5)", x.letIn(5), BEYOND);
        DUE.is("15: told(3)", x.told(3), 4);
    }

    private static void promise15NumberAmongAllPlaces() {
        SliceSeller x = triangle(9);
        x.slice(0, 0, 2, 6, 9);
        x.up(1, false);
        DUE.is("15: a WAY with a LINE that is DOWN is passed over", x.letIn(0), 3);
        SliceSeller y = pair(3, 10, 5);
        y.slice(1, 0, 1, 10, 9);
        y.up(1, false);
        DUE.is("15: and so is a SPARE", y.letIn(0), 2);
        DUE.is("15: the WAY", y.wayOf(0, false, 0), 0);
        DUE.is("15: the SPARE", y.wayOf(0, true, 0), 2);
        // At other TICKS nothing is in its way.
        SliceSeller z = pair(1, 10, 5);
        z.slice(0, 0, 1, 10, 9);
        z.span(0, 0, 11, 0);
        z.slice(0, 1, 0, 10, 9);
        z.span(1, 12, 23, 0);
        z.slice(0, 1, 0, 1, 9);
        z.span(2, 11, 12, 0);
        DUE.is("15: 0 to 11", z.letIn(0), 0);
        DUE.is("15: 12 to 23", z.letIn(1), 0);
        DUE.is("15: 11 to 12", z.letIn(2), NONE);
        // A TIMED one without HOURS never COUNTS; so it fits wherever it is.
        z.slice(4, 0, 1, 20, 9);
        DUE.is("15: a TIMED one without HOURS", z.letIn(3), 0);
    }

    private static void promise16Why() {
        SliceSeller x = triangle(9);
        DUE.is("16: no such SLICE", x.why(0), BEYOND);
        x.slice(0, 0, 2, 6, 3);
        DUE.is("16: no PLACE", x.why(0), 1);
        x.slice(0, 0, 2, 6, 4);
        DUE.is("16: it could", x.why(1), 0);
        DUE.is("16: that let nothing in", x.of(1, 11), 0);
        x.up(1, false);
        DUE.is("16: a LINE is DOWN", x.why(1), 2);
        DUE.is("16: no PLACE comes ahead of that", x.why(0), 1);
        x.up(1, true);
        x.slice(0, 0, 1, 5, 2);
        x.letIn(2);
        DUE.is("16: no room", x.why(1), 3);
        x.out(2);
        x.slice(0, 0, 1, 1, 2);
        x.terms(1, 0, 10, 0);
        DUE.is("16: no work", x.why(1), 4);
        x.terms(1, 0, 9, 0);
        DUE.is("16: just enough work", x.why(1), 0);
        x.letIn(2);
        x.terms(1, 0, 10, 0);
        DUE.is("16: no room comes ahead of no work", x.why(1), 3);
        DUE.is("16: it is IN", x.why(2), STATE);
        DUE.is("16: why(-1)", x.why(-1), BEYOND);
        DUE.is("16: why(4)", x.why(4), BEYOND);
        DUE.is("16: told(5)", x.told(5), 4);
        // The first of its PLACES is the only one that will do.
        SliceSeller w = new SliceSeller();
        w.node(5);
        w.node(4);
        w.line(0, 1, 1, 1, 0);
        w.slice(0, 0, 1, 1, 1);
        w.terms(0, 0, 5, 0);
        DUE.is("16: the first PLACE alone", w.why(0), 0);
        // One PLACE has room and no work, another one work and no room: 4.
        SliceSeller y = new SliceSeller();
        y.node(0);
        y.node(9);
        y.node(0);
        y.line(0, 1, 1, 1, 0);
        y.line(1, 2, 1, 1, 0);
        y.line(0, 2, 9, 1, 0);
        y.slice(0, 0, 2, 5, 9);
        y.terms(0, 0, 5, 0);
        DUE.is("16: room here, work there", y.why(0), 4);
        DUE.is("16: letIn", y.letIn(0), NONE);
        // The room that is wanting may be that of a SPARE.
        SliceSeller z = pair(2, 5, 9);
        z.slice(0, 0, 1, 5, 9);
        z.letIn(0);
        z.slice(1, 0, 1, 1, 9);
        DUE.is("16: no room for a SPARE", z.why(1), 3);
        z.up(0, false);
        DUE.is("16: the SPARE is DOWN", z.why(1), 2);
    }

    private static void promise17Out() {
        SliceSeller x = pair(1, 10, 20);
        DUE.is("17: no such SLICE", x.out(0), BEYOND);
        x.slice(0, 0, 1, 10, 1);
        x.terms(0, 0, 20, 0);
        DUE.is("17: it is not IN", x.out(0), STATE);
        x.letIn(0);
        DUE.is("17: out", x.out(0), 1);
        DUE.is("17: no LOAD", x.load(0, 0), 0);
        DUE.is("17: no WORK", x.work(0, 0), 0);
        DUE.is("17: told(3)", x.told(3), 0);
        DUE.is("17: again", x.out(0), STATE);
        DUE.is("17: it may come IN again", x.letIn(0), 0);
        DUE.is("17: out(-1)", x.out(-1), BEYOND);
        DUE.is("17: out(1)", x.out(1), BEYOND);
    }

    private static void promise18WayOf() {
        SliceSeller x = triangle(9);
        DUE.is("18: no such SLICE", x.wayOf(0, false, 0), BEYOND);
        x.slice(1, 2, 0, 3, 9);
        x.slice(0, 0, 2, 3, 9);
        DUE.is("18: it is not IN", x.wayOf(0, false, 0), STATE);
        DUE.is("18: STATE comes ahead of KIND", x.wayOf(1, true, 0), STATE);
        DUE.is("18: BEYOND comes ahead of STATE", x.wayOf(0, false, -1), BEYOND);
        x.letIn(0);
        x.letIn(1);
        int[] way = {1, 0, -1, -1};
        int[] spare = {2, -1, -1, -1};
        int[] other = {0, 1, -1, -1};
        for (int i = 0; i < 4; i++) {
            DUE.is("18: LINE " + i + " of the WAY from 2 to 0", x.wayOf(0, false, i), way[i]);
            DUE.is("18: LINE " + i + " of the SPARE", x.wayOf(0, true, i), spare[i]);
            DUE.is("18: LINE " + i + " of the WAY from 0 to 2", x.wayOf(1, false, i), other[i]);
        }
        DUE.is("18: far behind", x.wayOf(0, false, MAX), -1);
        DUE.is("18: far behind", x.wayOf(0, true, 9), -1);
        DUE.is("18: it is not SURE", x.wayOf(1, true, 0), KIND);
        DUE.is("18: i below 0", x.wayOf(1, true, MIN), BEYOND);
        DUE.is("18: slice -1", x.wayOf(-1, false, 0), BEYOND);
        DUE.is("18: slice 2", x.wayOf(2, false, 0), BEYOND);
        DUE.is("18: told(5)", x.told(5), 8);
    }

    private static void promise19Host() {
        SliceSeller x = triangle(9);
        DUE.is("19: no such SLICE", x.host(0), BEYOND);
        for (int i = 0; i < 4; i++) {
            x.slice(0, 2, 0, 1, 4);
            x.terms(i, 0, 6, 0);
            DUE.is("19: it is not IN", x.host(i), STATE);
            DUE.is("19: letIn", x.letIn(i), i < 3 ? i : NONE);
        }
        for (int i = 0; i < 3; i++) {
            // By number, not as the WAY comes to them.
            DUE.is("19: host(" + i + ")", x.host(i), i);
        }
        DUE.is("19: host(-1)", x.host(-1), BEYOND);
        DUE.is("19: host(4)", x.host(4), BEYOND);
    }

    private static void promise20Load() {
        SliceSeller x = pair(1, 30, 20);
        x.slice(0, 0, 1, 5, 1);
        x.slice(4, 0, 1, 4, 1);
        x.span(1, 2, 9, 1 << 2 | 1 << 3);
        x.slice(2, 0, 1, 9, 1);
        x.terms(2, 3, 0, 0);
        x.span(2, 20, 23, 0);
        x.slice(3, 0, 1, 9, 1);
        x.terms(3, 9, 0, 0);
        x.slice(0, 0, 1, 5, 1);
        for (int i = 0; i < 4; i++) {
            x.letIn(i);
        }
        for (int t = 0; t < 24; t++) {
            int due = 5 + (t == 2 || t == 3 || t == 8 || t == 9 ? 4 : 0) + (t >= 20 ? 3 : 0);
            DUE.is("20: load(0, " + t + ")", x.load(0, t), due);
        }
        DUE.is("20: tick 24", x.load(0, 24), BEYOND);
        DUE.is("20: tick -1", x.load(0, -1), BEYOND);
        DUE.is("20: line 1", x.load(1, 0), BEYOND);
        DUE.is("20: line -1", x.load(-1, 0), BEYOND);
    }

    private static void promise21FallRoom() {
        SliceSeller x = triangle(9);
        x.slice(1, 0, 2, 2, 5);
        x.slice(1, 0, 2, 3, 5);
        x.span(1, 4, 23, 0);
        x.letIn(0);
        x.letIn(1);
        // Both have LINES 0 and 1 in their WAYS: if one falls, both come to LINE 2.
        DUE.is("21: the one", x.fallRoom(2, 3), 2);
        DUE.is("21: both", x.fallRoom(2, 4), 5);
        DUE.is("21: not in a SPARE", x.fallRoom(0, 4), 0);
        DUE.is("21: not in a SPARE", x.fallRoom(3, 4), 0);
        DUE.is("21: no LOAD of a SPARE", x.load(2, 4), 0);
        x.up(0, false);
        DUE.is("21: whatever is DOWN", x.fallRoom(2, 4), 5);
        x.out(0);
        DUE.is("21: the other one", x.fallRoom(2, 4), 3);
        DUE.is("21: none", x.fallRoom(2, 3), 0);
        DUE.is("21: tick 24", x.fallRoom(0, 24), BEYOND);
        DUE.is("21: tick -1", x.fallRoom(0, -1), BEYOND);
        DUE.is("21: line 4", x.fallRoom(4, 0), BEYOND);
        DUE.is("21: line -1", x.fallRoom(-1, 0), BEYOND);
    }

    private static void promise21SharedBetweenFalls() {
        // LINES 0, 1 and 2 side by side: WAYS on 0 and on 1 share their SPARE on 2.
        SliceSeller x = pair(3, 10, 20);
        x.slice(1, 0, 1, 10, 3);
        x.slice(1, 0, 1, 7, 3);
        x.up(1, false);
        DUE.is("21: WAY 0, SPARE 2", x.letIn(0), 2);
        x.up(1, true);
        DUE.is("21: WAY 1, SPARE 2", x.letIn(1), 6);
        DUE.is("21: the greatest, not the sum", x.fallRoom(2, 0), 10);
        DUE.is("21: wayOf(0)", x.wayOf(0, false, 0), 0);
        DUE.is("21: wayOf(1)", x.wayOf(1, false, 0), 1);
        DUE.is("21: spare(2)", x.spare(2), 0);
        x.slice(1, 0, 1, 3, 3);
        // Of WAY 1 three are left, but were it to fall, 2 would need 10: that is just so.
        DUE.is("21: one more on WAY 1", x.letIn(2), 6);
        DUE.is("21: 7 and 3 together, if 1 falls", x.fallRoom(2, 0), 10);
        x.slice(1, 0, 1, 1, 3);
        DUE.is("21: all is taken", x.why(3), 3);
        x.out(0);
        DUE.is("21: 7 and 3 together still", x.fallRoom(2, 0), 10);
        x.out(1);
        DUE.is("21: 3 alone", x.fallRoom(2, 0), 3);
    }

    private static void promise21FallOfLine0() {
        // Two SURE SLICES on LINE 0 of ROOM 20, whose SPARE has room for one of them only.
        SliceSeller x = new SliceSeller();
        x.node(9);
        x.node(9);
        x.line(0, 1, 20, 1, 0);
        x.line(0, 1, 10, 2, 0);
        x.slice(1, 0, 1, 6, 2);
        x.slice(1, 0, 1, 6, 2);
        x.letIn(0);
        DUE.is("21: both would come to LINE 1", x.why(1), 3);
        DUE.is("21: can(3)", x.can(3), 0);
        DUE.is("21: fallRoom(1)", x.fallRoom(1, 0), 6);
    }

    private static void promise22Work() {
        SliceSeller x = pair(1, 30, 20);
        for (int i = 0; i < 4; i++) {
            x.slice(0, 0, 1, 1, 1);
            x.terms(i, 0, 8, 0);
            x.span(i, i, 23, 0);
            DUE.is("22: letIn", x.letIn(i), i / 2);
        }
        int[] first = {8, 16, 16, 16};
        int[] second = {0, 0, 8, 16};
        for (int t = 0; t < 4; t++) {
            DUE.is("22: work(0, " + t + ")", x.work(0, t), first[t]);
            DUE.is("22: work(1, " + t + ")", x.work(1, t), second[t]);
        }
        x.out(0);
        DUE.is("22: one is out", x.work(0, 23), 8);
        DUE.is("22: tick 24", x.work(0, 24), BEYOND);
        DUE.is("22: tick -1", x.work(0, -1), BEYOND);
        DUE.is("22: node 2", x.work(2, 0), BEYOND);
        DUE.is("22: node -1", x.work(-1, 0), BEYOND);
    }

    private static void promise23Spare() {
        SliceSeller x = triangle(9);
        DUE.is("23: no SLICE", x.spare(0), 10);
        x.slice(1, 0, 2, 2, 5);
        x.span(0, 0, 12, 0);
        x.slice(0, 0, 2, 3, 4);
        x.span(1, 12, 23, 0);
        x.letIn(0);
        x.letIn(1);
        DUE.is("23: both at TICK 12", x.spare(0), 5);
        DUE.is("23: FALLROOM, too", x.spare(2), 4);
        DUE.is("23: none", x.spare(3), 4);
        x.out(0);
        x.span(0, 23, 23, 0);
        x.out(1);
        x.letIn(0);
        DUE.is("23: the last TICK", x.spare(0), 8);
        x.out(0);
        x.span(0, 0, 0, 0);
        x.letIn(0);
        DUE.is("23: the first TICK", x.spare(0), 8);
        x.up(0, false);
        DUE.is("23: whatever is DOWN", x.spare(0), 8);
        DUE.is("23: line 4", x.spare(4), BEYOND);
        DUE.is("23: line -1", x.spare(-1), BEYOND);
    }

    private static void promise24Took() {
        SliceSeller x = triangle(9);
        x.slice(0, 0, 2, 1, 4);
        x.slice(1, 0, 2, 1, 5);
        x.slice(0, 0, 1, 1, 2);
        x.slice(0, 0, 2, 1, 4);
        x.letIn(0);
        x.letIn(1);
        x.letIn(2);
        DUE.is("24: as things are", x.took(-1), 0);
        DUE.is("24: LINE 0", x.took(0), 1 | 4);
        DUE.is("24: LINE 1", x.took(1), 1);
        DUE.is("24: LINE 2 is but a SPARE", x.took(2), 0);
        x.up(2, false);
        DUE.is("24: as things are", x.took(-1), 0);
        DUE.is("24: WAY and SPARE", x.took(1), 1 | 2);
        x.up(1, false);
        DUE.is("24: as things are", x.took(-1), 1 | 2);
        DUE.is("24: and LINE 3", x.took(3), 1 | 2);
        DUE.is("24: and LINE 0", x.took(0), 1 | 2 | 4);
        x.up(2, true);
        DUE.is("24: the SPARE is UP again", x.took(-1), 1);
        DUE.is("24: LINE 2, too", x.took(2), 1 | 2);
        DUE.is("24: nothing changed", x.about(2, 5), 1);
        DUE.is("24: line 4", x.took(4), BEYOND);
        DUE.is("24: line -2", x.took(-2), BEYOND);
    }

    /** Nothing is out of bounds with 6 NODES, 9 LINES and 8 SLICES. */
    private static void allThereCanBe() {
        SliceSeller x = new SliceSeller();
        for (int i = 0; i < 6; i++) {
            x.node(100);
        }
        for (int i = 0; i < 9; i++) {
            x.line(i % 6, (i + 1 + i / 6) % 6, 50, 1, 1);
        }
        for (int i = 0; i < 8; i++) {
            x.slice(i % 4, i % 6, (i + 3) % 6, 3, 99);
            x.terms(i, 1, 2, 1);
            DUE.is("all: why", x.why(i), 0);
            DUE.holds("all: letIn", x.letIn(i) >= 0);
            x.offer(i, 100);
        }
        DUE.is("all: lay", x.lay(255) < 9 ? 1 : 0, 1);
        DUE.is("all: can", x.can(255), 1);
        DUE.is("all: best", x.best(), 255);
        DUE.is("all: told(3)", x.told(3), 8);
        for (int l = 0; l < 9; l++) {
            DUE.holds("all: spare", x.spare(l) >= 0);
            DUE.holds("all: took", x.took(l) >= 0);
        }
        DUE.holds("all: run", x.run(24) > 0);
        DUE.holds("all: flow", x.flow(5, 0, 23) > 0);
        DUE.holds("all: cut", x.cut(5, 0, 23) > 0);
        x.sheet(3, 32, 8);
        x.write(3, 7, 1);
        DUE.is("all: read", x.read(3), 1);
        DUE.is("all: told(5)", x.told(5), 0);
    }

    private static void placesStayWhenLinesCome() {
        SliceSeller x = triangle(9);
        x.slice(1, 0, 2, 3, 9);
        x.letIn(0);
        // The new LINE makes the first of all WAYS; the SLICE stays where it is.
        x.line(0, 2, 9, 1, 0);
        DUE.is("a new LINE: the first WAY", x.way(0, 2, 0, 0), 4);
        DUE.is("a new LINE: wayOf", x.wayOf(0, false, 0), 0);
        DUE.is("a new LINE: load", x.load(4, 0), 0);
        x.out(0);
        DUE.is("a new LINE: load", x.load(0, 0), 0);
        x.letIn(0);
        DUE.is("a new LINE: wayOf", x.wayOf(0, false, 0), 4);
        DUE.is("a new LINE: its SPARE", x.wayOf(0, true, 1), 1);
    }
}
