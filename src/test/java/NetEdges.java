/** The boundary cases of the net: number 1 of the terms, and promises 1 to 8. */
final class NetEdges {
    private final Edges e;

    NetEdges(Edges e) {
        this.e = e;
    }

    void test() {
        termsNodes();
        termsLines();
        termsWay();
        termsLateness();
        termsOrderOfWays();
        newObject();
        nodeNumber();
        nodeBeyond();
        nodeFull();
        lineNumber();
        lineBeyond();
        lineFull();
        upIsNew();
        upBeyond();
        waysWhateverIsDown();
        waysBeyond();
        wayLines();
        wayBeyond();
        wayNone();
        flowMost();
        flowBeyond();
        cutFewest();
        cutBeyond();
    }

    private void termsNodes() {
        e.terms("NODES 0, 1, .. (at most 6) have a WORKROOM (0 to 100)");
        SliceSeller x = new SliceSeller();
        for (int i = 0; i < 6; i++) {
            e.is("node " + i, x.node(20 * i), i);
        }
        e.is("a seventh one", x.node(20), Edges.FULL);
        SliceSeller y = new SliceSeller();
        y.node(100);
        y.node(0);
        y.line(0, 1, 50, 1, 0);
        for (int i = 0; i < 5; i++) {
            y.slice(0, 0, 1, 1, 1);
            y.terms(i, 0, 20, 0);
            e.is("a fifth of WORKROOM 100", y.letIn(i), 0);
        }
        y.slice(0, 0, 1, 1, 1);
        y.terms(5, 0, 1, 0);
        e.is("100 are taken, and the other NODE has 0", y.letIn(5), Edges.NONE);
        e.is("no WORKROOM is left", y.why(5), 4);
        y.terms(5, 0, 0, 0);
        e.is("WORK 0 goes where all is taken", y.letIn(5), 0);
    }

    private void termsLines() {
        e.terms("LINES 0, 1, .. (at most 9) join two unlike NODES (two NODES may have several), with ROOM (1 to 50),"
                + " LATE (1 to 9) and a PRICE (0 to 9); each is UP (at first) or DOWN");
        SliceSeller x = Nets.nodes(2, 100);
        for (int i = 0; i < 9; i++) {
            e.is("all between the same two", x.line(i % 2, 1 - i % 2, 1, 1, 0), i);
            e.is("UP at first", x.about(i, 5), 1);
            x.up(i, false);
            e.is("or DOWN", x.about(i, 5), 0);
        }
        e.is("a tenth one", x.line(0, 1, 1, 1, 0), Edges.FULL);
        e.is("nine WAYS", x.ways(0, 1), 9);
        leastLine();
        greatestLine();
    }

    private void leastLine() {
        SliceSeller x = Nets.nodes(2, 100);
        x.line(0, 1, 1, 1, 0);
        x.slice(0, 0, 1, 2, 99);
        e.is("ROOM 1 has none for RATE 2", x.letIn(0), Edges.NONE);
        x.slice(0, 0, 1, 1, 1);
        e.is("ROOM 1 for RATE 1, LATE 1 for BOUND 1", x.letIn(1), 0);
        x.offer(1, 5);
        x.run(1);
        e.is("PRICE 0", x.of(1, 15), 0);
        e.is("one unit", x.of(1, 13), 1);
    }

    private void greatestLine() {
        SliceSeller x = Nets.nodes(2, 100);
        x.line(0, 1, 50, 9, 9);
        int[] rates = {20, 20, 10, 1};
        for (int i = 0; i < 4; i++) {
            x.slice(0, 0, 1, rates[i], 9);
            e.is("ROOM 50, RATE " + rates[i], x.letIn(i), i < 3 ? 0 : Edges.NONE);
        }
        x.slice(0, 0, 1, 1, 8);
        e.is("LATE 9 and BOUND 8", x.places(4), 0);
        x.offer(0, 1);
        x.run(1);
        e.is("PRICE 9", x.of(0, 15), 9);
    }

    private void termsWay() {
        e.terms("A WAY from a NODE to another one: LINES one behind the other that lead from the one to the other"
                + " and come to no NODE twice");
        SliceSeller x = Nets.nodes(6, 0);
        e.is("no LINES", x.ways(0, 1), 0);
        x.line(0, 1, 1, 1, 0);
        e.is("one LINE", x.ways(0, 1), 1);
        e.is("from its other NODE", x.ways(1, 0), 1);
        x.line(1, 2, 1, 1, 0);
        e.is("a LINE that leads on from the last NODE", x.ways(0, 1), 1);
        x.line(2, 3, 1, 1, 0);
        x.line(3, 1, 1, 1, 0);
        e.is("a ring behind the last NODE", x.ways(0, 1), 1);
        x.line(0, 4, 1, 1, 0);
        x.line(4, 5, 1, 1, 0);
        x.line(5, 0, 1, 1, 0);
        e.is("a ring ahead of the first NODE", x.ways(0, 1), 1);
        e.is("rings at both: round each of them, or straight", x.ways(4, 2), 4);
        e.is("no ring twice", x.ways(5, 1), 2);
        e.is("the longest: all six NODES but one", longest(Nets.chain(6, 1, 1), 0, 5), 5);
    }

    /** How many LINES the WAY with the most of them has. */
    private static int longest(SliceSeller x, int a, int b) {
        int most = 0;
        for (int i = 0; i < x.ways(a, b); i++) {
            int k = 0;
            while (k < 9 && x.way(a, b, i, k) >= 0) {
                k++;
            }
            most = Math.max(most, k);
        }
        return most;
    }

    private void termsLateness() {
        e.terms("Its LATENESS: the LATES of its LINES together");
        SliceSeller x = Nets.chain(6, 1, 9);
        e.is("five of LATE 9", x.way(0, 5, 0, -1), 45);
        e.is("and back", x.way(5, 0, 0, -1), 45);
        x.slice(0, 0, 5, 1, 44);
        x.slice(0, 0, 5, 1, 45);
        e.is("not above BOUND 44", x.places(0), 0);
        e.is("but above none of 45", x.places(1), 6);
        SliceSeller y = Nets.chain(2, 1, 1);
        e.is("one of LATE 1", y.way(0, 1, 0, -1), 1);
    }

    private void termsOrderOfWays() {
        e.terms("The WAYS from a NODE to another one are in order by LATENESS, then by how many LINES they have,"
                + " then by the number of the first LINE in which two differ");
        SliceSeller x = Nets.nodes(3, 0);
        x.line(0, 1, 1, 2, 0);
        x.line(1, 2, 1, 2, 0);
        x.line(0, 2, 1, 4, 0);
        x.line(0, 2, 1, 3, 0);
        x.line(1, 2, 1, 2, 0);
        e.says("ways(0, 2)", waysOf(x, 0, 2), "3 2 01 04");
        x.line(0, 1, 1, 1, 0);
        // [3] and [5, 1] and [5, 4] are of LATENESS 3, [2], [0, 1] and [0, 4] of 4.
        e.says("ways(0, 2)", waysOf(x, 0, 2), "3 51 54 2 01 04");
        e.says("ways(2, 0)", waysOf(x, 2, 0), "3 15 45 2 10 40");
        // The first LINE in which they differ, not the last one; it is another one from the other end.
        SliceSeller y = Nets.nodes(4, 0);
        y.line(0, 1, 1, 1, 0);
        y.line(3, 2, 1, 1, 0);
        y.line(1, 2, 1, 1, 0);
        y.line(0, 3, 1, 1, 0);
        e.says("ways(0, 2)", waysOf(y, 0, 2), "02 31");
        e.says("ways(2, 0)", waysOf(y, 2, 0), "13 20");
        // LINE 8, the last there can be, behind LINE 7.
        SliceSeller z = Nets.nodes(2, 0);
        for (int i = 0; i < 9; i++) {
            z.line(0, 1, 1, 1, 0);
        }
        e.says("ways(0, 1)", waysOf(z, 0, 1), "0 1 2 3 4 5 6 7 8");
    }

    /** The LINES of all WAYS, as "3 51": one WAY of LINE 3, then one of LINES 5 and 1. */
    private static String waysOf(SliceSeller x, int a, int b) {
        StringBuilder text = new StringBuilder();
        for (int i = 0; i < x.ways(a, b); i++) {
            text.append(i > 0 ? " " : "");
            for (int k = 0; x.way(a, b, i, k) >= 0; k++) {
                text.append(x.way(a, b, i, k));
            }
        }
        return text.toString();
    }

    private void newObject() {
        e.promise(1, "No NODES, LINES, SLICES; sheets MISSING");
        SliceSeller x = new SliceSeller();
        for (int what = 0; what <= 7; what++) {
            e.is("told(" + what + ")", x.told(what), 0);
        }
        e.is("no NODE", x.work(0, 0), Edges.BEYOND);
        e.is("no LINE", x.about(0, 0), Edges.BEYOND);
        e.is("no SLICE", x.of(0, 0), Edges.BEYOND);
        for (int s = 0; s < 4; s++) {
            e.is("sheet " + s, x.write(s, 0, 0), Edges.MISSING);
        }
        e.is("the empty set can be LAID", x.lay(0), 0);
        e.is("and is the dearest", x.best(), 0);
        e.is("a day without anything", x.run(24), 0);
        SliceSeller y = Nets.busy();
        e.holds("another object has NODES", y.told(0) > 0);
        e.is("this one has none still", x.told(0), 0);
    }

    private void nodeNumber() {
        e.promise(2, "A new NODE: its number");
        SliceSeller x = new SliceSeller();
        e.is("the first one", x.node(0), 0);
        e.is("a refused one", x.node(-1), Edges.BEYOND);
        e.is("takes no number", x.node(100), 1);
        e.is("told(0)", x.told(0), 2);
    }

    private void nodeBeyond() {
        e.promise(2, "BEYOND: work is not 0 to 100");
        e.within("node in a new object", SliceSeller::new, 0, 100, SliceSeller::node);
        e.within("node", Nets::busy, 0, 100, SliceSeller::node);
    }

    private void nodeFull() {
        e.promise(2, "FULL");
        e.is("the sixth one goes", Nets.nodes(5, 1).node(1), 5);
        e.refuses("a seventh one, of 0", () -> Nets.nodes(6, 1), x -> x.node(0), Edges.FULL);
        e.refuses("a seventh one, of 100", Nets::full, x -> x.node(100), Edges.FULL);
    }

    private void lineNumber() {
        e.promise(3, "A new LINE: its number");
        SliceSeller x = Nets.nodes(2, 0);
        e.is("the first one", x.line(0, 1, 1, 1, 0), 0);
        e.is("a refused one", x.line(0, 1, 0, 1, 0), Edges.BEYOND);
        e.is("takes no number", x.line(0, 1, 50, 9, 9), 1);
        e.is("told(1)", x.told(1), 2);
        int[] due = {0, 1, 50, 9, 9, 1, 0, 0, 0};
        for (int what = 0; what < 9; what++) {
            e.is("about(1, " + what + ")", x.about(1, what), due[what]);
        }
    }

    private void lineBeyond() {
        e.promise(3, "BEYOND: no such NODE (either), they are one, or a number is not as told");
        e.refuses("line without NODES", SliceSeller::new, x -> x.line(0, 1, 1, 1, 0), Edges.BEYOND);
        e.refuses("line with one NODE", () -> Nets.nodes(1, 0), x -> x.line(0, 1, 1, 1, 0), Edges.BEYOND);
        e.within("a", () -> Nets.nodes(3, 0), 0, 1, (x, v) -> x.line(v, 2, 1, 1, 0));
        e.within("b", () -> Nets.nodes(3, 0), 1, 2, (x, v) -> x.line(0, v, 1, 1, 0));
        for (int n = 0; n < 4; n++) {
            int node = n;
            e.refuses("they are one: " + n, Nets::busy, x -> x.line(node, node, 1, 1, 0), Edges.BEYOND);
        }
        e.within("room", Nets::busy, 1, 50, (x, v) -> x.line(0, 1, v, 1, 0));
        e.within("late", Nets::busy, 1, 9, (x, v) -> x.line(0, 1, 1, v, 0));
        e.within("price", Nets::busy, 0, 9, (x, v) -> x.line(0, 1, 1, 1, v));
    }

    private void lineFull() {
        e.promise(3, "FULL");
        e.is("the ninth one goes", Nets.pair(8, 1).line(0, 1, 1, 1, 0), 8);
        e.refuses("a tenth one", () -> Nets.pair(9, 1), x -> x.line(0, 1, 1, 1, 0), Edges.FULL);
        e.refuses("a tenth one elsewhere", Nets::full, x -> x.line(5, 4, 50, 9, 9), Edges.FULL);
    }

    private void upIsNew() {
        e.promise(4, "A LINE is UP, or DOWN: 1 if that is new, else 0");
        SliceSeller x = Nets.pair(9, 1);
        for (int l = 0; l < 9; l += 8) {
            e.is("UP at first", x.up(l, true), 0);
            e.is("DOWN", x.up(l, false), 1);
            e.is("DOWN still", x.up(l, false), 0);
            e.is("about", x.about(l, 5), 0);
            e.is("UP", x.up(l, true), 1);
            e.is("UP still", x.up(l, true), 0);
            e.is("about", x.about(l, 5), 1);
        }
        for (int l = 0; l < 9; l++) {
            e.is("all DOWN", x.up(l, false), 1);
        }
        e.is("LINE 0 is DOWN still", x.about(0, 5), 0);
        e.is("no finding", x.told(5), 0);
    }

    private void upBeyond() {
        e.promise(4, "BEYOND");
        e.refuses("no LINES", SliceSeller::new, x -> x.up(0, false), Edges.BEYOND);
        e.within("DOWN", Nets::busy, 0, 5, (x, v) -> x.up(v, false));
        e.within("UP", Nets::busy, 0, 5, (x, v) -> x.up(v, true));
        e.within("with all nine", Nets::full, 0, 8, (x, v) -> x.up(v, false));
    }

    private void waysWhateverIsDown() {
        e.promise(5, "How many WAYS there are from a NODE to another one (whatever is DOWN)");
        SliceSeller x = Nets.nodes(4, 0);
        e.is("none", x.ways(0, 3), 0);
        for (int i = 0; i < 9; i++) {
            x.line(i % 3, i % 3 + 1, 1, 1, 0);
        }
        e.is("27, the most there can be", x.ways(0, 3), 27);
        e.is("and back", x.ways(3, 0), 27);
        for (int i = 0; i < 9; i++) {
            x.up(i, false);
        }
        e.is("all is DOWN", x.ways(0, 3), 27);
        e.is("between two that three LINES join", x.ways(1, 2), 3);
        SliceSeller y = Nets.pair(1, 1);
        e.is("one", y.ways(0, 1), 1);
        y.line(0, 1, 1, 1, 0);
        e.is("a new LINE makes one more at once", y.ways(0, 1), 2);
    }

    private void waysBeyond() {
        e.promise(5, "BEYOND: no such NODE (either), or they are one");
        e.refuses("no NODES", SliceSeller::new, x -> x.ways(0, 1), Edges.BEYOND);
        e.within("a", Nets::busy, 0, 2, (x, v) -> x.ways(v, 3));
        e.within("b", Nets::busy, 1, 3, (x, v) -> x.ways(0, v));
        e.within("with all six", Nets::full, 0, 4, (x, v) -> x.ways(5, v));
        for (int n = 0; n < 4; n++) {
            int node = n;
            e.refuses("they are one: " + n, Nets::busy, x -> x.ways(node, node), Edges.BEYOND);
        }
        e.refuses("both are wrong and one", Nets::busy, x -> x.ways(-1, -1), Edges.BEYOND);
    }

    private void wayLines() {
        e.promise(6, "LINE k (from 0) of WAY i (from 0); -1 behind its last one (no finding); k -1: its LATENESS");
        SliceSeller x = Nets.chain(6, 1, 2);
        for (int k = 0; k < 5; k++) {
            e.is("LINE " + k, x.way(0, 5, 0, k), k);
            e.is("LINE " + k + " from the other end", x.way(5, 0, 0, k), 4 - k);
        }
        int[] behind = {5, 6, 7, 8, 9, 31, 32, 36, 64, Edges.MAX - 1, Edges.MAX};
        for (int k : behind) {
            e.is("behind its last one: " + k, x.way(0, 5, 0, k), -1);
            e.is("behind the only one: " + k, x.way(0, 1, 0, k), -1);
        }
        e.is("k 1 is behind the only one", x.way(0, 1, 0, 1), -1);
        e.is("k -1", x.way(0, 5, 0, -1), 10);
        e.is("no finding", x.told(5), 0);
    }

    private void wayBeyond() {
        e.promise(6, "BEYOND as of ways(), or i is below 0, or k below -1");
        e.refuses("no NODES", SliceSeller::new, x -> x.way(0, 1, 0, 0), Edges.BEYOND);
        e.within("a", Nets::busy, 0, 2, (x, v) -> x.way(v, 3, 0, 0));
        e.within("b", Nets::busy, 1, 3, (x, v) -> x.way(0, v, 0, 0));
        e.refuses("they are one", Nets::busy, x -> x.way(2, 2, 0, 0), Edges.BEYOND);
        int[] low = {-1, -2, -32, Edges.MIN};
        for (int i : low) {
            e.refuses("i " + i, Nets::busy, x -> x.way(0, 1, i, 0), Edges.BEYOND);
            e.refuses("i " + i + ", k -1", Nets::busy, x -> x.way(0, 1, i, -1), Edges.BEYOND);
        }
        int[] lower = {-2, -3, -33, Edges.MIN};
        for (int k : lower) {
            e.refuses("k " + k, Nets::busy, x -> x.way(0, 1, 0, k), Edges.BEYOND);
        }
        e.refuses("k -2 of no WAY", Nets::busy, x -> x.way(0, 1, 99, -2), Edges.BEYOND);
    }

    private void wayNone() {
        e.promise(6, "NONE: there is no such WAY");
        int ways = Nets.busy().ways(0, 2);
        e.holds("the last one is there", Nets.busy().way(0, 2, ways - 1, 0) >= 0);
        int[] high = {ways, ways + 1, 32, Edges.MAX};
        for (int i : high) {
            e.refuses("i " + i, Nets::busy, x -> x.way(0, 2, i, 0), Edges.NONE);
            e.refuses("its LATENESS, i " + i, Nets::busy, x -> x.way(0, 2, i, -1), Edges.NONE);
            e.refuses("behind its last LINE, i " + i, Nets::busy, x -> x.way(0, 2, i, Edges.MAX), Edges.NONE);
        }
        e.refuses("no WAYS at all", () -> Nets.nodes(2, 0), x -> x.way(0, 1, 0, 0), Edges.NONE);
        SliceSeller y = Nets.pair(9, 1);
        e.is("WAY 8 of nine", y.way(0, 1, 8, 0), 8);
        e.is("WAY 9 of nine", y.way(0, 1, 9, 0), Edges.NONE);
    }

    private void flowMost() {
        e.promise(7, "The most units that could go from a NODE to another one at a TICK at once over LINES that are UP,"
                + " parted over WAYS as may be, over each LINE at most its ROOM less LOAD and FALLROOM");
        SliceSeller x = Nets.pair(9, 50);
        e.is("nine times 50", x.flow(0, 1, 0), 450);
        e.is("and back", x.flow(1, 0, 23), 450);
        for (int l = 0; l < 8; l++) {
            x.up(l, false);
        }
        e.is("one is UP", x.flow(0, 1, 0), 50);
        x.up(8, false);
        e.is("none is", x.flow(0, 1, 0), 0);
        e.is("no LINES", Nets.nodes(2, 0).flow(0, 1, 0), 0);
        SliceSeller y = Nets.pair(2, 10);
        y.slice(1, 0, 1, 10, 9);
        y.span(0, 23, 23, 0);
        y.letIn(0);
        e.is("ahead of the last TICK", y.flow(0, 1, 22), 20);
        e.is("LOAD and FALLROOM leave none in the last TICK", y.flow(0, 1, 23), 0);
        e.is("nor back", y.flow(1, 0, 23), 0);
        // A WAY of five LINES lets through what the narrowest one does.
        SliceSeller z = Nets.chain(5, 9, 1);
        z.node(0);
        z.line(4, 5, 1, 1, 0);
        e.is("as much as the narrowest LINE", z.flow(0, 5, 0), 1);
        // Parted over WAYS that join again, the one against a LINE's order.
        SliceSeller w = Nets.nodes(4, 0);
        w.line(0, 1, 3, 1, 0);
        w.line(2, 0, 2, 1, 0);
        w.line(2, 1, 1, 1, 0);
        w.line(1, 3, 2, 1, 0);
        w.line(3, 2, 3, 1, 0);
        e.is("parted", w.flow(0, 3, 0), 5);
    }

    private void flowBeyond() {
        e.promise(7, "BEYOND: as of ways(), or tick");
        e.refuses("no NODES", SliceSeller::new, x -> x.flow(0, 1, 0), Edges.BEYOND);
        e.within("a", Nets::busy, 0, 2, (x, v) -> x.flow(v, 3, 0));
        e.within("b", Nets::busy, 1, 3, (x, v) -> x.flow(0, v, 0));
        e.refuses("they are one", Nets::busy, x -> x.flow(1, 1, 0), Edges.BEYOND);
        e.within("tick", Nets::busy, 0, 23, (x, v) -> x.flow(0, 1, v));
    }

    private void cutFewest() {
        e.promise(8, "THE CUT: of all sets of NODES that have a and not b and for which ROOM less LOAD and FALLROOM,"
                + " at the TICK, of all LINES that are UP and lead out of the set, comes to the least together,"
                + " the one with the fewest NODES");
        SliceSeller x = Nets.chain(6, 5, 1);
        e.is("all LINES are alike: a alone", x.cut(0, 5, 0), 1);
        e.is("from the other end", x.cut(5, 0, 0), 32);
        SliceSeller y = Nets.chain(5, 5, 1);
        y.node(0);
        y.line(4, 5, 4, 1, 0);
        e.is("the last LINE is the narrowest: all but b", y.cut(0, 5, 0), 31);
        e.is("and from there", y.cut(5, 0, 0), 32);
        y.up(2, false);
        e.is("a LINE that is DOWN lets none through", y.cut(0, 5, 0), 7);
        y.up(0, false);
        e.is("the first of two such", y.cut(0, 5, 0), 1);
        e.is("NODES without LINES: a alone", Nets.nodes(6, 0).cut(3, 2, 0), 8);
        // FALLROOM and LOAD leave none on LINES 0 and 1, at TICK 0 alone.
        SliceSeller z = Nets.triangle(3);
        z.slice(1, 0, 1, 3, 9);
        z.span(0, 0, 0, 0);
        z.letIn(0);
        e.is("none comes out of 0 at TICK 0", z.cut(0, 2, 0), 1);
        e.is("LINES 1 and 2 have FALLROOM", z.flow(2, 0, 0), 0);
        e.is("none comes out of 2", z.cut(2, 0, 0), 4);
        z.up(0, false);
        e.is("at TICK 1 by LINE 2 alone", z.cut(0, 1, 1), 1);
        z.line(0, 2, 1, 1, 0);
        e.is("LINES 2 and 3 are wider than LINE 1", z.cut(0, 1, 1), 1 | 4);
    }

    private void cutBeyond() {
        e.promise(8, "BEYOND as of flow()");
        e.refuses("no NODES", SliceSeller::new, x -> x.cut(0, 1, 0), Edges.BEYOND);
        e.within("a", Nets::busy, 0, 2, (x, v) -> x.cut(v, 3, 0));
        e.within("b", Nets::busy, 1, 3, (x, v) -> x.cut(0, v, 0));
        e.refuses("they are one", Nets::busy, x -> x.cut(3, 3, 0), Edges.BEYOND);
        e.within("tick", Nets::busy, 0, 23, (x, v) -> x.cut(0, 1, v));
    }
}
