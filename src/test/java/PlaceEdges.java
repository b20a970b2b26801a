/** The boundary cases of SLICES that come IN and go: promises 15 to 24. */
final class PlaceEdges {
    private final Edges e;

    PlaceEdges(Edges e) {
        this.e = e;
    }

    void test() {
        letInFirst();
        letInBeyond();
        letInState();
        letInNone();
        whyOrder();
        whyBeyond();
        whyState();
        outOne();
        outBeyond();
        outState();
        wayOfLines();
        wayOfBeyond();
        wayOfState();
        wayOfKind();
        hostOf();
        hostBeyond();
        hostState();
        loadAtTick();
        loadBeyond();
        fallRoomAtTick();
        fallRoomBeyond();
        workAtTick();
        workBeyond();
        spareLeast();
        spareBeyond();
        tookSet();
        tookBeyond();
    }

    private void letInFirst() {
        e.promise(15, "A SLICE comes IN with the first of its PLACES whose LINES (of WAY and SPARE) are all UP and with"
                + " which ALL HOLDS: the number of that PLACE, from 0, among all PLACES that it has");
        // Nine LINES of ROOM 1: each SLICE takes the next one; LINE 4 is DOWN.
        SliceSeller x = Nets.pair(9, 1);
        x.up(4, false);
        for (int i = 0; i < 8; i++) {
            x.slice(0, 0, 1, 1, 99);
            int line = i < 4 ? i : i + 1;
            e.is("the first WAY that is free and UP", x.letIn(i), 2 * line);
            e.is("its WAY", x.wayOf(i, false, 0), line);
        }
        // Of the last PLACE: the last WAY and the last HOST.
        SliceSeller y = new SliceSeller();
        y.node(0);
        y.node(1);
        for (int i = 0; i < 9; i++) {
            y.line(0, 1, i < 8 ? 1 : 2, 1, 0);
        }
        y.slice(0, 0, 1, 2, 1);
        y.terms(0, 0, 1, 0);
        e.is("the last of 18", y.letIn(0), 17);
        e.is("host", y.host(0), 1);
        dueSpareUp();
    }

    private void dueSpareUp() {
        SliceSeller x = Nets.pair(3, 5);
        x.slice(1, 0, 1, 5, 9);
        x.up(1, false);
        e.is("LINE 1 is DOWN: SPARE 2", x.letIn(0), 2);
        x.out(0);
        x.up(0, false);
        x.up(1, true);
        e.is("LINE 0 is DOWN: WAY 1, SPARE 2", x.letIn(0), 6);
        x.out(0);
        x.up(0, true);
        e.is("all are UP", x.letIn(0), 0);
        SliceSeller y = Nets.nodes(3, 0);
        y.node(1);
        for (int i = 0; i < 9; i++) {
            y.line(i % 3, i % 3 + 1, 1, 1, 0);
        }
        y.slice(1, 0, 3, 1, 99);
        e.is("the first of 864", y.letIn(0), 0);
        y.out(0);
        y.terms(0, 0, 1, 0);
        e.is("HOST 3 of the first WAY and SPARE", y.letIn(0), 3);
    }

    private void letInBeyond() {
        e.promise(15, "BEYOND");
        e.refuses("no SLICES", () -> Nets.pair(1, 1), x -> x.letIn(0), Edges.BEYOND);
        for (int s : Edges.outside(0, 5)) {
            e.refuses("slice " + s, Nets::busy, x -> x.letIn(s), Edges.BEYOND);
        }
        for (int s : Edges.outside(0, 7)) {
            e.refuses("slice " + s + " of eight", Nets::full, x -> x.letIn(s), Edges.BEYOND);
        }
    }

    private void letInState() {
        e.promise(15, "STATE: it is IN");
        for (int s = 0; s < 5; s++) {
            int slice = s;
            e.refuses("of kind " + s, Nets::busy, x -> x.letIn(slice), Edges.STATE);
        }
        e.refuses("its LINE is DOWN", () -> inAndDown(), x -> x.letIn(0), Edges.STATE);
    }

    private static SliceSeller inAndDown() {
        SliceSeller x = Nets.pair(1, 1);
        x.slice(0, 0, 1, 1, 1);
        x.letIn(0);
        x.up(0, false);
        return x;
    }

    private void letInNone() {
        e.promise(15, "NONE: there is none such");
        e.refuses("no PLACE: no LINES", () -> oneSlice(0, 1, 1), x -> x.letIn(0), Edges.NONE);
        e.refuses("no PLACE: BOUND below LATE", () -> lateBy(9, 8), x -> x.letIn(0), Edges.NONE);
        e.is("BOUND as LATE", lateBy(9, 9).letIn(0), 0);
        e.refuses("no ROOM", () -> oneSlice(9, 1, 2), x -> x.letIn(0), Edges.NONE);
        e.is("just the ROOM", oneSlice(9, 2, 2).letIn(0), 0);
        e.refuses("all DOWN", PlaceEdges::allDown, x -> x.letIn(0), Edges.NONE);
        e.refuses("no WORKROOM", PlaceEdges::workless, x -> x.letIn(0), Edges.NONE);
        e.refuses("no SPARE", PlaceEdges::spareless, x -> x.letIn(0), Edges.NONE);
    }

    private static SliceSeller oneSlice(int lines, int room, int rate) {
        SliceSeller x = Nets.pair(lines, room);
        x.slice(0, 0, 1, rate, 99);
        return x;
    }

    private static SliceSeller lateBy(int late, int bound) {
        SliceSeller x = Nets.nodes(2, 0);
        x.line(0, 1, 1, late, 0);
        x.slice(0, 0, 1, 1, bound);
        return x;
    }

    private static SliceSeller allDown() {
        SliceSeller x = oneSlice(2, 5, 1);
        x.up(0, false);
        x.up(1, false);
        return x;
    }

    private static SliceSeller workless() {
        SliceSeller x = Nets.nodes(2, 19);
        x.line(0, 1, 50, 1, 0);
        x.slice(0, 0, 1, 1, 1);
        x.terms(0, 0, 20, 0);
        return x;
    }

    /** A SURE SLICE on two LINES, the second one of which is taken. */
    private static SliceSeller spareless() {
        SliceSeller x = Nets.pair(2, 5);
        x.slice(1, 0, 1, 1, 9);
        x.slice(0, 0, 1, 5, 9);
        x.up(0, false);
        x.letIn(1);
        x.up(0, true);
        return x;
    }

    private void whyOrder() {
        e.promise(16, "Why a SLICE could not come IN: 0 it could; 1 it has no PLACE; 2 none all of whose LINES are UP;"
                + " 3 it has such, but with none of them would all LINES have LOAD and FALLROOM of ROOM at most; 4 else");
        e.is("it could, just", oneSlice(1, 2, 2).why(0), 0);
        e.is("no LINES", oneSlice(0, 1, 1).why(0), 1);
        e.is("BOUND one below LATE", lateBy(2, 1).why(0), 1);
        e.is("BOUND as LATE", lateBy(2, 2).why(0), 0);
        e.is("all DOWN", allDown().why(0), 2);
        e.is("ROOM one short", oneSlice(9, 1, 2).why(0), 3);
        e.is("no ROOM for a SPARE", spareless().why(0), 3);
        e.is("WORKROOM one short", workless().why(0), 4);
        SliceSeller x = allDown();
        x.up(1, true);
        e.is("one of two is UP", x.why(0), 0);
        dueWhyOfSure();
        dueWhyMixed();
    }

    private void dueWhyOfSure() {
        SliceSeller x = Nets.pair(1, 5);
        x.slice(1, 0, 1, 5, 9);
        e.is("a SURE one with one WAY", x.why(0), 1);
        x.line(0, 1, 5, 9, 0);
        e.is("and with another one, of LATENESS 9", x.why(0), 0);
        x.up(0, false);
        e.is("its WAY is DOWN", x.why(0), 2);
        x.up(0, true);
        x.up(1, false);
        e.is("its SPARE is", x.why(0), 2);
    }

    private void dueWhyMixed() {
        // LINE 0 is DOWN, LINE 1 has no ROOM.
        SliceSeller x = oneSlice(2, 5, 1);
        x.slice(0, 0, 1, 5, 9);
        x.up(0, false);
        x.letIn(1);
        e.is("one DOWN, one without ROOM", x.why(0), 3);
        x.out(1);
        x.terms(1, 0, 20, 0);
        e.is("one DOWN, one free", x.why(0), 0);
        // No ROOM here and no WORKROOM there: with a PLACE there the LINES would hold.
        SliceSeller y = new SliceSeller();
        y.node(0);
        y.node(0);
        y.node(20);
        y.line(0, 1, 2, 9, 0);
        y.line(0, 2, 1, 1, 0);
        y.line(2, 1, 1, 1, 0);
        y.slice(0, 0, 1, 2, 9);
        y.terms(0, 0, 1, 0);
        e.is("ROOM where no WORKROOM is", y.why(0), 4);
        // The first of its PLACES alone will do.
        SliceSeller w = new SliceSeller();
        w.node(1);
        w.node(0);
        w.line(0, 1, 2, 1, 0);
        w.line(0, 1, 1, 1, 0);
        w.slice(0, 0, 1, 2, 9);
        w.terms(0, 0, 1, 0);
        e.is("the first PLACE alone", w.why(0), 0);
        e.is("it is", w.letIn(0), 0);
        // The last of its PLACES alone will do.
        SliceSeller z = new SliceSeller();
        z.node(0);
        z.node(1);
        z.line(0, 1, 1, 1, 0);
        z.line(0, 1, 2, 9, 0);
        z.slice(0, 0, 1, 2, 9);
        z.terms(0, 0, 1, 0);
        e.is("the last PLACE alone", z.why(0), 0);
        e.is("it is", z.letIn(0), 3);
        e.is("no finding", z.told(5), 0);
    }

    private void whyBeyond() {
        e.promise(16, "BEYOND");
        e.refuses("no SLICES", () -> Nets.pair(1, 1), x -> x.why(0), Edges.BEYOND);
        for (int s : Edges.outside(0, 5)) {
            e.refuses("slice " + s, Nets::busy, x -> x.why(s), Edges.BEYOND);
        }
        for (int s : Edges.outside(0, 7)) {
            e.refuses("slice " + s + " of eight", Nets::full, x -> x.why(s), Edges.BEYOND);
        }
        e.is("the last one", Nets.busy().why(5), 0);
    }

    private void whyState() {
        e.promise(16, "STATE: it is IN");
        for (int s = 0; s < 5; s++) {
            int slice = s;
            e.refuses("of kind " + s, Nets::busy, x -> x.why(slice), Edges.STATE);
        }
        e.refuses("its LINE is DOWN", PlaceEdges::inAndDown, x -> x.why(0), Edges.STATE);
    }

    private void outOne() {
        e.promise(17, "A SLICE is not IN any more: 1");
        SliceSeller x = Nets.pair(9, 1);
        for (int i = 0; i < 8; i++) {
            x.slice(i % 2, 0, 1, 1, 99);
            x.terms(i, 0, 20, 0);
        }
        x.letIn(0);
        x.letIn(7);
        e.is("the last one", x.out(7), 1);
        e.is("not IN", x.of(7, 11), 0);
        e.is("the first one is", x.of(0, 11), 1);
        e.is("the first one", x.out(0), 1);
        for (int l = 0; l < 9; l++) {
            e.is("all ROOM is free", x.spare(l), 1);
        }
        e.is("all WORKROOM is", x.work(0, 0) + x.work(1, 23), 0);
        e.is("units stay WAITING", waitingBehindOut(), 30);
        SliceSeller y = inAndDown();
        e.is("with its LINE DOWN", y.out(0), 1);
    }

    private static int waitingBehindOut() {
        SliceSeller x = oneSlice(1, 1, 1);
        x.letIn(0);
        x.offer(0, 30);
        x.out(0);
        x.run(24);
        return x.of(0, 12);
    }

    private void outBeyond() {
        e.promise(17, "BEYOND");
        e.refuses("no SLICES", () -> Nets.pair(1, 1), x -> x.out(0), Edges.BEYOND);
        for (int s : Edges.outside(0, 5)) {
            e.refuses("slice " + s, Nets::busy, x -> x.out(s), Edges.BEYOND);
        }
        for (int s : Edges.outside(0, 7)) {
            e.refuses("slice " + s + " of eight", Nets::full, x -> x.out(s), Edges.BEYOND);
        }
    }

    private void outState() {
        e.promise(17, "STATE: it is not IN");
        e.refuses("at first", Nets::busy, x -> x.out(5), Edges.STATE);
        e.refuses("twice", () -> {
            SliceSeller x = Nets.busy();
            x.out(0);
            return x;
        }, x -> x.out(0), Edges.STATE);
    }

    private void wayOfLines() {
        e.promise(18, "LINE i (from 0) of the WAY of a SLICE (spare: of its SPARE); -1 behind the last one (no finding)");
        SliceSeller x = Nets.chain(6, 9, 1);
        x.line(0, 5, 9, 9, 0);
        x.slice(1, 5, 0, 1, 9);
        x.slice(0, 0, 1, 1, 1);
        x.letIn(0);
        x.letIn(1);
        for (int i = 0; i < 5; i++) {
            e.is("LINE " + i + " of five", x.wayOf(0, false, i), 4 - i);
        }
        e.is("LINE 0 of one", x.wayOf(0, true, 0), 5);
        int[] behind = {5, 6, 8, 9, 31, 32, 64, Edges.MAX - 1, Edges.MAX};
        for (int i : behind) {
            e.is("behind the last one: " + i, x.wayOf(0, false, i), -1);
            e.is("behind the last one: " + i, x.wayOf(0, true, i), -1);
            e.is("behind the last one: " + i, x.wayOf(1, false, i), -1);
        }
        e.is("just behind the last one", x.wayOf(0, true, 1), -1);
        e.is("just behind the last one", x.wayOf(1, false, 1), -1);
        e.is("no finding", x.told(5), 0);
    }

    private void wayOfBeyond() {
        e.promise(18, "BEYOND: no such SLICE, or i is below 0");
        e.refuses("no SLICES", () -> Nets.pair(1, 1), x -> x.wayOf(0, false, 0), Edges.BEYOND);
        for (int s : Edges.outside(0, 5)) {
            e.refuses("slice " + s + ", its WAY", Nets::busy, x -> x.wayOf(s, false, 0), Edges.BEYOND);
            e.refuses("slice " + s + ", its SPARE", Nets::busy, x -> x.wayOf(s, true, 0), Edges.BEYOND);
        }
        int[] low = {-1, -2, -32, Edges.MIN};
        for (int i : low) {
            e.refuses("i " + i, Nets::busy, x -> x.wayOf(1, false, i), Edges.BEYOND);
            e.refuses("i " + i + " of a SPARE", Nets::busy, x -> x.wayOf(1, true, i), Edges.BEYOND);
            e.refuses("i " + i + " of one that is not IN", Nets::busy, x -> x.wayOf(5, false, i), Edges.BEYOND);
            e.refuses("i " + i + " of a SPARE, not SURE", Nets::busy, x -> x.wayOf(0, true, i), Edges.BEYOND);
        }
    }

    private void wayOfState() {
        e.promise(18, "STATE: it is not IN");
        e.refuses("WAY", Nets::busy, x -> x.wayOf(5, false, 0), Edges.STATE);
        e.refuses("SPARE", Nets::busy, x -> x.wayOf(5, true, 0), Edges.STATE);
        e.refuses("far behind", Nets::busy, x -> x.wayOf(5, false, Edges.MAX), Edges.STATE);
        e.refuses("SPARE of one that is not SURE", () -> oneSlice(1, 1, 1), x -> x.wayOf(0, true, 0), Edges.STATE);
    }

    private void wayOfKind() {
        e.promise(18, "KIND: spare, and it is not SURE");
        int[] others = {0, 2, 3, 4};
        for (int s : others) {
            e.refuses("of kind " + s, Nets::busy, x -> x.wayOf(s, true, 0), Edges.KIND);
            e.refuses("far behind, of kind " + s, Nets::busy, x -> x.wayOf(s, true, Edges.MAX), Edges.KIND);
            e.holds("its WAY is told", Nets.busy().wayOf(s, false, 0) >= 0);
        }
        e.holds("of a SURE one", Nets.busy().wayOf(1, true, 0) >= 0);
    }

    private void hostOf() {
        e.promise(19, "The HOST of a SLICE");
        for (int host = 0; host < 6; host++) {
            SliceSeller x = new SliceSeller();
            for (int n = 0; n < 6; n++) {
                x.node(n == host ? 20 : 19);
            }
            for (int n = 0; n < 5; n++) {
                x.line(n, n + 1, 1, 1, 0);
            }
            x.slice(0, 5, 0, 1, 5);
            x.terms(0, 0, 20, 0);
            e.is("the only one that has 20", x.letIn(0), host);
            e.is("host", x.host(0), host);
        }
    }

    private void hostBeyond() {
        e.promise(19, "BEYOND");
        e.refuses("no SLICES", () -> Nets.pair(1, 1), x -> x.host(0), Edges.BEYOND);
        for (int s : Edges.outside(0, 5)) {
            e.refuses("slice " + s, Nets::busy, x -> x.host(s), Edges.BEYOND);
        }
    }

    private void hostState() {
        e.promise(19, "STATE: it is not IN");
        e.refuses("at first", Nets::busy, x -> x.host(5), Edges.STATE);
        SliceSeller y = Nets.busy();
        y.out(0);
        e.is("out", y.host(0), Edges.STATE);
    }

    /** SLICES 0 and 1 that COUNT at TICKS 0 and 23 alone, with RATES 3 and 4, SURE, WORKS 5 and 6. */
    private static SliceSeller ends() {
        SliceSeller x = Nets.pair(2, 20);
        for (int i = 0; i < 2; i++) {
            x.slice(1, 0, 1, 3 + i, 9);
            x.terms(i, 0, 5 + i, 0);
            x.span(i, 23 * i, 23 * i, 0);
            x.letIn(i);
        }
        return x;
    }

    private void loadAtTick() {
        e.promise(20, "LOAD of a LINE at a TICK");
        SliceSeller x = ends();
        e.is("TICK 0", x.load(0, 0), 3);
        e.is("TICK 1", x.load(0, 1), 0);
        e.is("TICK 22", x.load(0, 22), 0);
        e.is("TICK 23", x.load(0, 23), 4);
        e.is("the last of nine LINES", loadOfLast(), 20);
    }

    private static int loadOfLast() {
        SliceSeller x = Nets.pair(9, 50);
        for (int l = 0; l < 8; l++) {
            x.up(l, false);
        }
        x.slice(0, 0, 1, 20, 99);
        x.letIn(0);
        return x.load(8, 23);
    }

    private void loadBeyond() {
        e.promise(20, "BEYOND");
        e.refuses("no LINES", () -> Nets.nodes(2, 0), x -> x.load(0, 0), Edges.BEYOND);
        e.within("line", Nets::busy, 0, 5, (x, v) -> x.load(v, 0));
        e.within("line of nine", Nets::full, 0, 8, (x, v) -> x.load(v, 23));
        e.within("tick", Nets::busy, 0, 23, (x, v) -> x.load(0, v));
    }

    private void fallRoomAtTick() {
        e.promise(21, "FALLROOM of a LINE at a TICK");
        SliceSeller x = ends();
        e.is("TICK 0", x.fallRoom(1, 0), 3);
        e.is("TICK 1", x.fallRoom(1, 1), 0);
        e.is("TICK 22", x.fallRoom(1, 22), 0);
        e.is("TICK 23", x.fallRoom(1, 23), 4);
        // SPARES on the last LINE, for the falls of all eight others.
        SliceSeller y = Nets.pair(9, 20);
        for (int i = 0; i < 8; i++) {
            y.slice(1, 0, 1, 20, 99);
            for (int l = 0; l < 8; l++) {
                y.up(l, l == i);
            }
            e.is("WAY " + i + ", SPARE 8", y.letIn(i), 16 * i + 14);
        }
        e.is("eight falls that never meet", y.fallRoom(8, 23), 20);
        e.is("none of LINE 0", y.fallRoom(0, 23), 0);
    }

    private void fallRoomBeyond() {
        e.promise(21, "BEYOND");
        e.refuses("no LINES", () -> Nets.nodes(2, 0), x -> x.fallRoom(0, 0), Edges.BEYOND);
        e.within("line", Nets::busy, 0, 5, (x, v) -> x.fallRoom(v, 0));
        e.within("line of nine", Nets::full, 0, 8, (x, v) -> x.fallRoom(v, 23));
        e.within("tick", Nets::busy, 0, 23, (x, v) -> x.fallRoom(0, v));
    }

    private void workAtTick() {
        e.promise(22, "WORKS, together, of SLICES that are IN, COUNT at a TICK and have a NODE as HOST");
        SliceSeller x = ends();
        e.is("TICK 0", x.work(0, 0), 5);
        e.is("TICK 1", x.work(0, 1), 0);
        e.is("TICK 22", x.work(0, 22), 0);
        e.is("TICK 23", x.work(0, 23), 6);
        e.is("not its HOST", x.work(1, 23), 0);
        x.out(1);
        e.is("out", x.work(0, 23), 0);
        SliceSeller y = Nets.nodes(5, 0);
        y.node(100);
        y.line(5, 4, 50, 1, 0);
        for (int i = 0; i < 5; i++) {
            y.slice(0, 4, 5, 1, 1);
            y.terms(i, 0, 20, 0);
            y.letIn(i);
        }
        e.is("all WORKROOM of the last NODE", y.work(5, 23), 100);
    }

    private void workBeyond() {
        e.promise(22, "BEYOND");
        e.refuses("no NODES", SliceSeller::new, x -> x.work(0, 0), Edges.BEYOND);
        e.within("node", Nets::busy, 0, 3, (x, v) -> x.work(v, 0));
        e.within("node of six", Nets::full, 0, 5, (x, v) -> x.work(v, 23));
        e.within("tick", Nets::busy, 0, 23, (x, v) -> x.work(0, v));
    }

    private void spareLeast() {
        e.promise(23, "The least, over all TICKS, of ROOM less LOAD and FALLROOM of a LINE");
        SliceSeller x = Nets.pair(9, 20);
        e.is("nothing is taken", x.spare(0), 20);
        e.is("nor of the last LINE", x.spare(8), 20);
        SliceSeller y = ends();
        e.is("the least is at TICK 23", y.spare(0), 16);
        e.is("by FALLROOM", y.spare(1), 16);
        y.out(1);
        e.is("the least is at TICK 0", y.spare(0), 17);
        y.slice(0, 0, 1, 17, 9);
        y.span(2, 0, 0, 0);
        y.letIn(2);
        e.is("none is left", y.spare(0), 0);
        y.up(0, false);
        e.is("whether it is DOWN or not", y.spare(0), 0);
        for (int t = 0; t < 24; t++) {
            SliceSeller z = oneSlice(1, 20, 9);
            z.span(0, t, t, 0);
            z.letIn(0);
            e.is("taken at TICK " + t + " alone", z.spare(0), 11);
        }
    }

    private void spareBeyond() {
        e.promise(23, "BEYOND");
        e.refuses("no LINES", () -> Nets.nodes(2, 0), x -> x.spare(0), Edges.BEYOND);
        e.within("line", Nets::busy, 0, 5, SliceSeller::spare);
        e.within("line of nine", Nets::full, 0, 8, SliceSeller::spare);
    }

    private void tookSet() {
        e.promise(24, "The set of SLICES that are IN and have no TAKEN WAY when a LINE is DOWN, too (others as they are;"
                + " line -1: as things are)");
        e.is("nothing at all", new SliceSeller().took(-1), 0);
        SliceSeller x = Nets.pair(2, 50);
        for (int i = 0; i < 8; i++) {
            x.slice(i % 2, 0, 1, 5, 2);
        }
        e.is("none is IN", x.took(0), 0);
        for (int i = 0; i < 8; i++) {
            x.letIn(i);
        }
        e.is("as things are", x.took(-1), 0);
        e.is("plain ones on LINE 0", x.took(0), 1 | 4 | 16 | 64);
        e.is("SPARES alone", x.took(1), 0);
        x.up(0, false);
        e.is("as things are", x.took(-1), 1 | 4 | 16 | 64);
        e.is("it is DOWN already", x.took(0), 1 | 4 | 16 | 64);
        e.is("all of them", x.took(1), 255);
        x.up(1, false);
        e.is("all of them", x.took(-1), 255);
        x.out(7);
        e.is("one is not IN", x.took(-1), 127);
        e.is("LINE 0 is DOWN still", x.about(0, 5), 0);
        x.up(0, true);
        e.is("the WAY is UP, the SPARE is not", x.took(-1), 0);
    }

    private void tookBeyond() {
        e.promise(24, "BEYOND");
        e.refuses("no LINES", () -> Nets.nodes(2, 0), x -> x.took(0), Edges.BEYOND);
        e.within("line", Nets::busy, -1, 5, SliceSeller::took);
        e.within("line of nine", Nets::full, -1, 8, SliceSeller::took);
    }
}
