/** Promises 25 to 28: laid anew. */
public final class LayTest {
    private static final int BEYOND = -1000001;
    private static final int NONE = -1000005;
    private static final int SPENT = -1000006;
    private static final int MIN = Integer.MIN_VALUE;
    private static final int MAX = Integer.MAX_VALUE;

    private static final Due DUE = new Due("LayTest");

    public static void main(String[] args) {
        promise25LayMakesRoom();
        promise25LayCountsOthers();
        promise25LayBeyondAndNone();
        promise25LayPassesBack();
        promise25LayPassesOverDown();
        promise25LayByTicks();
        promise25LayShares();
        promise26Can();
        promise27Best();
        promise27BestOrder();
        promise27BestCountsTriesTogether();
        promise28Tries();
        promise28JustNotSpent();
        DUE.end();
    }

    /** 0-1 by LINE 0 of LATE 1, and round by 0-2 and 2-1, LINES 1 and 2. */
    private static SliceSeller triangle(int room, int work) {
        SliceSeller x = new SliceSeller();
        for (int i = 0; i < 3; i++) {
            x.node(work);
        }
        x.line(0, 1, room, 1, 0);
        x.line(0, 2, room, 1, 0);
        x.line(2, 1, room, 1, 0);
        return x;
    }

    private static void promise25LayMakesRoom() {
        SliceSeller x = triangle(5, 100);
        x.slice(0, 0, 1, 5, 2);
        x.slice(0, 0, 1, 5, 1);
        DUE.is("25: letIn(0)", x.letIn(0), 0);
        DUE.is("25: letIn(1)", x.letIn(1), NONE);
        DUE.is("25: lay(3)", x.lay(3), 1);
        DUE.is("25: SLICE 0 goes round", x.wayOf(0, false, 0), 1);
        DUE.is("25: SLICE 1 goes straight", x.wayOf(1, false, 0), 0);
        DUE.is("25: load(0)", x.load(0, 0), 5);
        DUE.is("25: load(1)", x.load(1, 0), 5);
        DUE.is("25: load(2)", x.load(2, 23), 5);
        DUE.is("25: told(3)", x.told(3), 2);
        // SLICE 0: straight; 1: straight, two HOSTS, both full; so 0 with its next PLACE, and so on.
        DUE.is("25: tries()", x.tries(), 1 + 2 + 1 + 2 + 1 + 1);
        DUE.is("25: lay(3) again changes nothing", x.lay(3), 0);
        DUE.is("25: tries()", x.tries(), 8);
    }

    private static void promise25LayCountsOthers() {
        SliceSeller x = triangle(50, 10);
        for (int i = 0; i < 3; i++) {
            x.slice(0, 0, 1, 1, 2);
            x.terms(i, 0, 10, 0);
            x.letIn(i);
        }
        // HOSTS 0, 1 and, by the WAY round, 2.
        DUE.is("25: host(2)", x.host(2), 2);
        DUE.is("25: SLICE 0 is not IN any more, 1 and 2 have another HOST", x.lay(6), 3);
        DUE.is("25: host(1)", x.host(1), 0);
        DUE.is("25: host(2)", x.host(2), 1);
        DUE.is("25: SLICE 0 is out", x.of(0, 11), 0);
        DUE.is("25: one that was not IN does not count", x.lay(6 | 1), 2);
        DUE.is("25: none of the set", x.lay(0), 3);
        DUE.is("25: told(3)", x.told(3), 0);
        DUE.is("25: work(0)", x.work(0, 0), 0);
        DUE.is("25: load(0)", x.load(0, 0), 0);
        // Another SPARE counts as well.
        SliceSeller y = new SliceSeller();
        y.node(9);
        y.node(9);
        for (int i = 0; i < 3; i++) {
            y.line(0, 1, 5, 1 + i, 0);
        }
        y.slice(1, 0, 1, 5, 9);
        y.up(1, false);
        y.letIn(0);
        DUE.is("25: the SPARE was 2", y.wayOf(0, true, 0), 2);
        y.up(1, true);
        DUE.is("25: another SPARE", y.lay(1), 1);
        DUE.is("25: the SPARE is 1", y.wayOf(0, true, 0), 1);
    }

    private static void promise25LayBeyondAndNone() {
        SliceSeller x = triangle(5, 100);
        DUE.is("25: no SLICES", x.lay(1), BEYOND);
        x.slice(0, 0, 1, 5, 1);
        x.slice(0, 0, 1, 5, 1);
        x.letIn(1);
        DUE.is("25: lay(3)", x.lay(3), NONE);
        DUE.is("25: tries()", x.tries(), 6);
        DUE.is("25: nothing changed", x.of(0, 11), 0);
        DUE.is("25: nothing changed", x.of(1, 11), 1);
        DUE.is("25: nothing changed", x.load(0, 0), 5);
        DUE.is("25: lay(4)", x.lay(4), BEYOND);
        DUE.is("25: lay(5)", x.lay(5), BEYOND);
        DUE.is("25: lay(-1)", x.lay(-1), BEYOND);
        DUE.is("25: lay(min)", x.lay(MIN), BEYOND);
        DUE.is("25: lay(max)", x.lay(MAX), BEYOND);
        DUE.is("25: told(5)", x.told(5), 7);
        DUE.is("25: tries() as of the latest that was not BEYOND", x.tries(), 6);
        for (int i = 2; i < 8; i++) {
            x.slice(0, 1, 0, 5, 1);
        }
        DUE.is("25: lay(256)", x.lay(256), BEYOND);
        DUE.is("25: lay(255)", x.lay(255), NONE);
        // A SLICE without PLACES has no TRY.
        x = triangle(5, 100);
        x.node(0);
        x.slice(0, 0, 3, 1, 99);
        DUE.is("25: no PLACES", x.lay(1), NONE);
        DUE.is("25: no TRY", x.tries(), 0);
    }

    private static void promise25LayPassesBack() {
        // SLICES 0, 1 and 2 by NODES' works: 2 can only be at NODE 2, 1 at NODES 0 and 1.
        SliceSeller x = new SliceSeller();
        x.node(10);
        x.node(10);
        x.node(10);
        x.line(0, 1, 50, 1, 0);
        x.line(1, 2, 50, 1, 0);
        x.slice(0, 0, 2, 1, 9);
        x.terms(0, 0, 10, 0);
        x.slice(0, 0, 1, 1, 9);
        x.terms(1, 0, 10, 0);
        x.slice(0, 0, 1, 1, 9);
        x.terms(2, 0, 10, 0);
        // 0 at NODE 0: 1 at NODE 1, 2 nowhere; 0 at NODE 1: 1 at NODE 0, 2 nowhere; 0 at NODE 2: all.
        DUE.is("25: lay(7)", x.lay(7), 0);
        DUE.is("25: tries()", x.tries(), (1 + 2 + 2) + (1 + 1 + 2 + 1) + (1 + 1 + 2));
        DUE.is("25: host(0)", x.host(0), 2);
        DUE.is("25: host(1)", x.host(1), 0);
        DUE.is("25: host(2)", x.host(2), 1);
    }

    private static void promise25LayPassesOverDown() {
        SliceSeller x = triangle(5, 100);
        x.slice(0, 0, 1, 5, 2);
        x.letIn(0);
        x.up(0, false);
        DUE.is("25: round, since LINE 0 is DOWN", x.lay(1), 1);
        DUE.is("25: wayOf(0)", x.wayOf(0, false, 0), 1);
        DUE.is("25: a PLACE that is passed over is no TRY", x.tries(), 1);
        x.up(2, false);
        DUE.is("25: all is DOWN", x.lay(1), NONE);
        DUE.is("25: no TRY", x.tries(), 0);
        DUE.is("25: it is IN still", x.of(0, 11), 1);
        // A SPARE that is DOWN is passed over as well.
        SliceSeller y = triangle(5, 100);
        y.slice(1, 0, 1, 5, 2);
        y.up(1, false);
        DUE.is("25: no SPARE", y.can(1), 0);
        DUE.is("25: no TRY", y.tries(), 0);
    }

    private static void promise25LayByTicks() {
        SliceSeller x = triangle(5, 100);
        x.slice(0, 0, 1, 5, 1);
        x.span(0, 0, 7, 0);
        x.slice(4, 0, 1, 5, 1);
        x.span(1, 8, 23, 1 | 4);
        x.slice(4, 0, 1, 5, 1);
        x.span(2, 8, 23, 2 | 8);
        x.slice(0, 0, 1, 5, 1);
        x.span(3, 10, 10, 0);
        DUE.is("25: never at one TICK", x.lay(7), 0);
        DUE.is("25: tries()", x.tries(), 3);
        DUE.is("25: load(0, 7)", x.load(0, 7), 5);
        DUE.is("25: load(0, 8)", x.load(0, 8), 5);
        DUE.is("25: load(0, 9)", x.load(0, 9), 5);
        DUE.is("25: load(0, 10)", x.load(0, 10), 0);
        DUE.is("25: load(0, 12)", x.load(0, 12), 5);
        DUE.is("25: TICK 10 is free", x.lay(15), 0);
        DUE.is("25: load(0, 10)", x.load(0, 10), 5);
        x.out(3);
        x.span(3, 10, 12, 0);
        DUE.is("25: TICK 12 is not", x.lay(15), NONE);
        DUE.is("25: and out again", x.lay(0), 3);
        // The spans of an earlier call do not count any more.
        for (int i = 0; i < 4; i++) {
            x.span(i, 6 * i, 6 * i + 5, 63);
        }
        DUE.is("25: four spans one behind the other", x.lay(15), 0);
        x.lay(0);
        x.span(1, 0, 0, 63);
        DUE.is("25: two at TICK 0", x.can(3), 0);
        x.span(1, 23, 23, 63);
        DUE.is("25: two at TICK 23", x.can(10), 0);
        DUE.is("25: not these", x.can(3), 1);
    }

    private static void promise25LayShares() {
        SliceSeller x = new SliceSeller();
        x.node(100);
        x.node(100);
        for (int i = 0; i < 3; i++) {
            x.line(0, 1, 10, 1 + i, 0);
        }
        x.slice(1, 0, 1, 10, 9);
        x.slice(1, 0, 1, 10, 9);
        // WAYS on LINES 0 and 2 share the SPARE on LINE 1.
        DUE.is("25: lay(3)", x.lay(3), 0);
        DUE.is("25: wayOf(0)", x.wayOf(0, false, 0), 0);
        DUE.is("25: its SPARE", x.wayOf(0, true, 0), 1);
        DUE.is("25: wayOf(1)", x.wayOf(1, false, 0), 2);
        DUE.is("25: its SPARE", x.wayOf(1, true, 0), 1);
        DUE.is("25: fallRoom(1)", x.fallRoom(1, 0), 10);
        DUE.is("25: one TRY, ten PLACES in vain", x.tries(), 1 + 10 + 1);
        x.slice(0, 0, 1, 1, 9);
        DUE.is("25: no room for more", x.can(7), 0);
        DUE.is("25: fallRoom(1)", x.fallRoom(1, 0), 10);
    }

    private static void promise26Can() {
        SliceSeller x = triangle(5, 100);
        DUE.is("26: no SLICES", x.can(1), BEYOND);
        DUE.is("26: the empty set", x.can(0), 1);
        x.slice(0, 0, 1, 5, 2);
        x.slice(0, 0, 1, 5, 1);
        x.slice(0, 0, 1, 5, 1);
        x.letIn(0);
        DUE.is("26: it could", x.can(3), 1);
        DUE.is("26: tries()", x.tries(), 8);
        DUE.is("26: nothing changed", x.wayOf(0, false, 0), 0);
        DUE.is("26: nothing changed", x.of(1, 11), 0);
        DUE.is("26: it could not", x.can(6), 0);
        DUE.is("26: that is no finding", x.told(5), 1);
        DUE.is("26: nothing changed", x.of(0, 11), 1);
        DUE.is("26: can(8)", x.can(8), BEYOND);
        DUE.is("26: can(-1)", x.can(-1), BEYOND);
        DUE.is("26: can(max)", x.can(MAX), BEYOND);
    }

    private static void promise27Best() {
        SliceSeller x = triangle(5, 100);
        x.slice(0, 0, 1, 5, 1);
        x.slice(0, 0, 1, 5, 1);
        x.slice(0, 0, 2, 5, 1);
        x.terms(0, 0, 0, 7);
        x.terms(1, 0, 0, 8);
        x.terms(2, 0, 0, 1);
        x.letIn(0);
        DUE.is("27: the dearer one and the other", x.best(), 2 | 4);
        DUE.is("27: nothing changed", x.of(0, 11), 1);
        DUE.is("27: nothing changed", x.of(1, 11), 0);
        DUE.is("27: nothing changed", x.load(0, 0), 5);
        x.up(0, false);
        DUE.is("27: LINE 0 is DOWN", x.best(), 4);
        x.up(1, false);
        DUE.is("27: the empty one always can", x.best(), 0);
        DUE.is("27: no TRY", x.tries(), 0);
        DUE.is("27: no finding", x.told(5), 0);
    }

    private static void promise27BestOrder() {
        SliceSeller x = triangle(5, 100);
        for (int i = 0; i < 4; i++) {
            x.slice(0, 0, 1, 5, 1);
            x.terms(i, 0, 0, 10);
        }
        DUE.is("27: of like ones the least as a number", x.best(), 1);
        x.terms(0, 0, 0, 9);
        DUE.is("27: of like ones the least as a number", x.best(), 2);
        x.terms(3, 0, 0, 11);
        DUE.is("27: the dearest", x.best(), 8);
        for (int i = 0; i < 4; i++) {
            x.terms(i, 0, 0, 0);
        }
        // All sets are of PRICE 0: the empty one is the least, and it can be.
        DUE.is("27: all of PRICE 0", x.best(), 0);
        DUE.is("27: no TRY", x.tries(), 0);
        x.terms(1, 0, 0, 1000);
        DUE.is("27: one that is dear", x.best(), 2);
        DUE.is("27: sets with 1 in order: 2, its least, is first", x.tries(), 1);
    }

    private static void promise27BestCountsTriesTogether() {
        SliceSeller x = triangle(5, 100);
        x.slice(0, 0, 1, 5, 1);
        x.slice(0, 0, 1, 5, 1);
        x.terms(0, 0, 0, 2);
        x.terms(1, 0, 0, 3);
        DUE.is("27: best()", x.best(), 2);
        // Both: two PLACES with two TRIES each in vain; then the one alone.
        DUE.is("27: TRIES count together", x.tries(), 2 * 3 + 1);
        DUE.is("27: and from 0 again", x.best(), 2);
        DUE.is("27: TRIES", x.tries(), 7);
    }

    /** So many SLICES between two NODES with nine LINES, and one that never fits. */
    private static SliceSeller crowd(int slices) {
        SliceSeller x = new SliceSeller();
        x.node(100);
        x.node(100);
        for (int i = 0; i < 9; i++) {
            x.line(0, 1, 5, 1, 0);
        }
        for (int i = 0; i < slices; i++) {
            x.slice(0, 0, 1, 1, 1);
            x.terms(i, 0, 0, 1);
        }
        x.slice(0, 0, 1, 6, 1);
        x.terms(slices, 0, 0, 1);
        return x;
    }

    private static void promise28Tries() {
        SliceSeller x = crowd(3);
        DUE.is("28: ahead of the first one", x.tries(), 0);
        x.letIn(0);
        DUE.is("28: can(8)", x.can(8), 0);
        DUE.is("28: 18 PLACES", x.tries(), 18);
        DUE.is("28: can(9)", x.can(9), 0);
        DUE.is("28: 18 times 18, and 18", x.tries(), 18 * 18 + 18);
        DUE.is("28: can(11)", x.can(11), SPENT);
        DUE.is("28: 2000 if it was SPENT", x.tries(), 2000);
        DUE.is("28: lay(9)", x.lay(9), NONE);
        DUE.is("28: as of lay()", x.tries(), 342);
        DUE.is("28: lay(15)", x.lay(15), SPENT);
        DUE.is("28: 2000", x.tries(), 2000);
        DUE.is("28: nothing changed", x.of(0, 11), 1);
        DUE.is("28: nothing changed", x.told(3), 1);
        DUE.is("28: nothing changed", x.load(0, 0), 1);
        DUE.is("28: lay(7)", x.lay(7), 0);
        DUE.is("28: three TRIES", x.tries(), 3);
        DUE.is("28: best()", x.best(), SPENT);
        DUE.is("28: 2000", x.tries(), 2000);
        DUE.is("28: nothing changed", x.told(3), 3);
        DUE.is("28: BEYOND", x.can(16), BEYOND);
        DUE.is("28: tries() stays", x.tries(), 2000);
        DUE.is("28: can(0)", x.can(0), 1);
        DUE.is("28: no TRY", x.tries(), 0);
        DUE.is("28: told(5)", x.told(5), 5);
        DUE.is("28: what was tried left nothing behind", x.can(7), 1);
        DUE.is("28: three TRIES", x.tries(), 3);
    }

    private static void promise28JustNotSpent() {
        // 16, 4, 6 and 4 PLACES, with the last four ever in vain: 16 + 64 + 384 + 1536 TRIES.
        SliceSeller x = new SliceSeller();
        x.node(100);
        x.node(100);
        for (int i = 0; i < 8; i++) {
            x.line(0, 1, 5, 1 + i, 0);
        }
        x.slice(0, 0, 1, 1, 8);
        x.slice(0, 0, 1, 1, 2);
        x.slice(0, 0, 1, 1, 3);
        x.slice(0, 0, 1, 20, 2);
        DUE.is("28: just 2000", x.can(15), 0);
        DUE.is("28: tries()", x.tries(), 2000);
        DUE.is("28: no finding", x.told(5), 0);
        DUE.is("28: lay", x.lay(15), NONE);
        DUE.is("28: tries()", x.tries(), 2000);

        // 3, 18, 6 and 5 PLACES: 3 + 54 + 324 + 1620 TRIES.
        SliceSeller y = new SliceSeller();
        for (int i = 0; i < 3; i++) {
            y.node(100);
        }
        for (int i = 0; i < 6; i++) {
            y.line(0, 1, 5, 1 + i, 0);
        }
        y.line(1, 2, 5, 1, 0);
        y.line(0, 2, 5, 9, 0);
        y.slice(0, 0, 2, 1, 2);
        y.slice(0, 0, 2, 1, 7);
        y.slice(0, 0, 2, 1, 3);
        y.slice(0, 1, 2, 20, 10);
        int[] places = {3, 18, 6, 5};
        for (int i = 0; i < 4; i++) {
            DUE.is("28: places(" + i + ")", y.places(i), places[i]);
        }
        DUE.is("28: a 2001st would come", y.can(15), SPENT);
        DUE.is("28: tries()", y.tries(), 2000);
        DUE.is("28: a finding", y.told(5), 1);
    }
}
