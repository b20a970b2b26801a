/** The boundary cases of what a SLICE is: number 2 of the terms, and promises 9 to 14. */
final class SliceEdges {
    private final Edges e;

    SliceEdges(Edges e) {
        this.e = e;
    }

    void test() {
        termsKinds();
        termsNumbers();
        termsCounts();
        termsNeed();
        termsPlace();
        termsOrderOfPlaces();
        termsIn();
        termsLoad();
        termsFallRoom();
        termsAllHolds();
        sliceNumber();
        sliceBeyond();
        sliceFull();
        termsOne();
        termsBeyond();
        termsState();
        spanOne();
        spanBeyond();
        spanState();
        asNumber();
        asBeyond();
        asKind();
        ofWhat();
        ofBeyond();
        placesWhatever();
        placesBeyond();
    }

    private void termsKinds() {
        e.terms("SLICES 0, 1, .. (at most 8) are of a kind: 0 SLICE, 1 SURE under SLICE, 2 ELASTIC under SLICE,"
                + " 3 SHARED under ELASTIC, 4 TIMED under SLICE");
        SliceSeller x = Nets.pair(1, 1);
        for (int i = 0; i < 8; i++) {
            e.is("slice " + i, x.slice(i % 5, 0, 1, 1, 1), i);
            e.is("its kind", x.of(i, 0), i % 5);
        }
        e.is("a ninth one", x.slice(0, 0, 1, 1, 1), Edges.FULL);
        int[] above = {1, 1 | 2, 1 | 4, 1 | 4 | 8, 1 | 16};
        for (int s = 0; s < 5; s++) {
            for (int kind = 0; kind < 5; kind++) {
                boolean is = (above[s] >> kind & 1) == 1;
                e.is("kind " + s + " as " + kind, x.as(s, kind), is ? s : Edges.KIND);
            }
        }
    }

    private void termsNumbers() {
        e.terms("Each has two ENDS (unlike NODES), a RATE (1 to 20), a BOUND (1 to 99), a LEAST (0 to RATE; 0 at first),"
                + " WORK (0 to 20; 0 at first), a PRICE (0 to 1000; 0 at first), a FIRST and a LAST TICK (0 to 23,"
                + " the FIRST not above the LAST; 0 and 23 at first) and HOURS (a set of 0 to 5; none at first)");
        for (int kind = 0; kind < 5; kind++) {
            SliceSeller x = Nets.nodes(6, 0);
            x.slice(kind, 5, 0, 1, 1);
            x.slice(kind, 0, 5, 20, 99);
            int[] least = {kind, 5, 0, 1, 1, 0, 0, 0, 0, 23, 0};
            int[] most = {kind, 0, 5, 20, 99, 20, 20, 1000, 23, 23, 63};
            for (int what = 0; what <= 10; what++) {
                e.is("at first, of(0, " + what + ")", x.of(0, what), least[what]);
            }
            e.is("greatest terms", x.terms(1, 20, 20, 1000), 1);
            e.is("latest span", x.span(1, 23, 23, 63), 1);
            for (int what = 0; what <= 10; what++) {
                e.is("greatest, of(1, " + what + ")", x.of(1, what), most[what]);
            }
            e.is("LEAST not above RATE 1", x.terms(0, 2, 0, 0), Edges.BEYOND);
            e.is("LEAST as RATE 1", x.terms(0, 1, 0, 0), 1);
            e.is("FIRST as LAST", x.span(0, 7, 7, 0), 1);
            e.is("FIRST above LAST", x.span(0, 8, 7, 0), Edges.BEYOND);
        }
    }

    private void termsCounts() {
        e.terms("It COUNTS at a TICK that is not ahead of its FIRST and not behind its LAST;"
                + " a TIMED one if its HOURS have the TICK modulo 6, too");
        int[][] spans = {{0, 23}, {0, 0}, {23, 23}, {1, 22}, {5, 6}, {12, 12}};
        for (int[] span : spans) {
            for (int hours = 0; hours < 64; hours += 21) {
                for (int kind = 0; kind < 5; kind += 2) {
                    dueCounts(kind, span[0], span[1], hours);
                }
            }
        }
        for (int hour = 0; hour < 6; hour++) {
            dueCounts(4, 0, 23, 1 << hour);
            dueCounts(4, 6, 17, 63 - (1 << hour));
        }
    }

    private void dueCounts(int kind, int first, int last, int hours) {
        SliceSeller x = Nets.pair(2, 10);
        x.slice(kind, 0, 1, 7, 9);
        x.terms(0, 7, 1, 0);
        x.span(0, first, last, hours);
        x.letIn(0);
        for (int t = 0; t < 24; t++) {
            boolean counts = t >= first && t <= last && (kind != 4 || (hours >> t % 6 & 1) == 1);
            String name = "kind " + kind + ", " + first + " to " + last + ", HOURS " + hours + ", TICK " + t;
            e.is(name + ": load", x.load(0, t), counts ? 7 : 0);
            e.is(name + ": work", x.work(0, t), counts ? 1 : 0);
        }
    }

    private void termsNeed() {
        e.terms("NEED is its RATE, of an ELASTIC one its LEAST, of a SHARED one 0");
        int[] leasts = {0, 1, 20};
        for (int least : leasts) {
            int[] need = {20, 20, least, 0, 20};
            for (int kind = 0; kind < 5; kind++) {
                SliceSeller x = Nets.pair(2, 50);
                x.slice(kind, 0, 1, 20, 9);
                x.terms(0, least, 0, 0);
                x.span(0, 0, 23, 63);
                e.is("kind " + kind + " of LEAST " + least, x.of(0, 17), need[kind]);
                x.letIn(0);
                e.is("its LOAD", x.load(0, 0), need[kind]);
            }
        }
    }

    private void termsPlace() {
        e.terms("A PLACE of a SLICE: a WAY from its first END to its second one with a LATENESS not above its BOUND;"
                + " of a SURE one also a SPARE, another such WAY, which has no LINE in common with the WAY;"
                + " and a HOST: a NODE to which the WAY comes (its ENDS, too), of a SURE one to which WAY and SPARE come");
        SliceSeller x = Nets.triangle(9);
        x.slice(0, 0, 2, 1, 1);
        x.slice(0, 0, 2, 1, 2);
        x.slice(1, 0, 2, 1, 1);
        x.slice(1, 0, 2, 1, 2);
        e.is("BOUND 1: LINE 2 with its ENDS", x.places(0), 2);
        e.is("BOUND 2: and LINES 0 and 1 with three NODES", x.places(1), 5);
        e.is("no SPARE within BOUND 1", x.places(2), 0);
        e.is("either is the other's SPARE, with two NODES in common", x.places(3), 4);
        // All WAYS have LINE 0 in common, so there is no SPARE.
        SliceSeller y = Nets.nodes(3, 9);
        y.line(0, 1, 9, 1, 0);
        for (int i = 0; i < 8; i++) {
            y.line(1, 2, 9, 1, 0);
        }
        y.slice(1, 0, 2, 1, 99);
        y.slice(0, 0, 2, 1, 99);
        e.is("eight WAYS, no two without a common LINE", y.places(0), 0);
        e.is("eight WAYS with three NODES", y.places(1), 24);
        e.is("one WAY is no SPARE of itself", sureOnPair(1).places(0), 0);
        e.is("two are", sureOnPair(2).places(0), 4);
        e.is("nine of them", sureOnPair(9).places(0), 9 * 8 * 2);
        // WAY and SPARE meet in NODE 1 on the way, which may be the HOST then.
        SliceSeller z = Nets.nodes(3, 0);
        z.node(9);
        z.line(0, 1, 9, 1, 0);
        z.line(0, 1, 9, 1, 0);
        z.line(1, 2, 9, 1, 0);
        z.line(1, 2, 9, 1, 0);
        z.slice(1, 0, 2, 1, 2);
        e.is("four WAYS, one SPARE each, three HOSTS", z.places(0), 12);
        e.is("a SLICE between NODES without LINES", lone().places(0), 0);
    }

    private static SliceSeller sureOnPair(int lines) {
        SliceSeller x = Nets.pair(lines, 9);
        x.slice(1, 0, 1, 1, 99);
        return x;
    }

    private static SliceSeller lone() {
        SliceSeller x = Nets.nodes(2, 9);
        x.slice(0, 0, 1, 1, 99);
        return x;
    }

    private void termsOrderOfPlaces() {
        e.terms("PLACES are in order by WAY, then by SPARE, then by HOST");
        // PLACES of a SURE one on three LINES: WAY 0 with SPARES 1, 2; WAY 1 with 0, 2; WAY 2 with 0, 1; two HOSTS.
        int[][] down = {{-1, 0}, {1, 2}, {0, 6}};
        for (int[] d : down) {
            for (int host = 0; host < 2; host++) {
                SliceSeller x = new SliceSeller();
                x.node(host == 0 ? 1 : 0);
                x.node(1);
                for (int i = 0; i < 3; i++) {
                    x.line(0, 1, 10, 1 + i, 0);
                }
                x.slice(1, 0, 1, 10, 3);
                x.terms(0, 0, 1, 0);
                x.up(d[0], false);
                e.is("LINE " + d[0] + " DOWN, HOST " + host, x.letIn(0), d[1] + host);
                e.is("host", x.host(0), host);
            }
        }
        // LINE 1 is held for the fall of LINE 0: it can be a SPARE only.
        SliceSeller y = Nets.pair(3, 10);
        y.slice(1, 1, 0, 10, 3);
        y.slice(1, 1, 0, 10, 3);
        e.is("WAY 0, SPARE 1", y.letIn(0), 0);
        e.is("WAY 2, SPARE 1", y.letIn(1), 10);
        e.is("the HOST with the least number, not the first on the WAY", y.host(1), 0);
    }

    private void termsIn() {
        e.terms("A SLICE is IN, with one of its PLACES, or it is not (at first)");
        SliceSeller x = Nets.pair(1, 50);
        for (int i = 0; i < 8; i++) {
            x.slice(0, 0, 1, 1, 1);
            e.is("at first", x.of(i, 11), 0);
            e.is("no WAY", x.wayOf(i, false, 0), Edges.STATE);
            e.is("no HOST", x.host(i), Edges.STATE);
        }
        e.is("told(3)", x.told(3), 0);
        for (int i = 0; i < 8; i++) {
            e.is("letIn", x.letIn(i), 0);
            e.is("told(3)", x.told(3), i + 1);
            e.is("it is IN", x.of(i, 11), 1);
        }
        for (int i = 0; i < 8; i++) {
            e.is("out", x.out(i), 1);
            e.is("told(3)", x.told(3), 7 - i);
        }
    }

    private void termsLoad() {
        e.terms("LOAD of a LINE at a TICK: the NEEDS, together, of SLICES that are IN, COUNT then,"
                + " and have the LINE in their WAY");
        SliceSeller x = Nets.triangle(50);
        e.is("no SLICES", x.load(0, 0), 0);
        x.slice(0, 0, 1, 20, 1);
        e.is("one that is not IN", x.load(0, 0), 0);
        x.letIn(0);
        x.slice(1, 0, 1, 20, 2);
        x.letIn(1);
        x.slice(0, 1, 0, 10, 1);
        x.span(2, 23, 23, 0);
        x.letIn(2);
        x.slice(3, 0, 1, 20, 1);
        x.terms(3, 20, 0, 0);
        x.letIn(3);
        e.is("two, and one that does not COUNT, and a SHARED one", x.load(0, 22), 40);
        e.is("just the ROOM", x.load(0, 23), 50);
        e.is("a SPARE is no LOAD", x.load(1, 23), 0);
        e.is("a SPARE is no LOAD", x.load(2, 0), 0);
        x.out(0);
        e.is("one is out", x.load(0, 23), 30);
        x.up(0, false);
        e.is("DOWN or not", x.load(0, 23), 30);
    }

    private void termsFallRoom() {
        e.terms("FALLROOM of a LINE at a TICK: the greatest, over all other LINES, of the NEEDS, together,"
                + " of SURE SLICES that are IN, COUNT then, have that other LINE in their WAY and this one in their"
                + " SPARE (0 without any)");
        SliceSeller x = Nets.pair(3, 20);
        e.is("without any", x.fallRoom(2, 0), 0);
        x.slice(1, 0, 1, 9, 3);
        x.slice(1, 0, 1, 12, 3);
        x.slice(1, 0, 1, 8, 3);
        e.is("one that is not IN", x.fallRoom(2, 0), 0);
        x.up(1, false);
        x.letIn(0);
        x.up(1, true);
        x.up(0, false);
        x.letIn(1);
        x.span(2, 6, 23, 0);
        x.letIn(2);
        x.up(0, true);
        e.is("of 9 by LINE 0 and 12 by LINE 1 the greatest", x.fallRoom(2, 5), 12);
        e.is("12 and 8 by LINE 1 together", x.fallRoom(2, 6), 20);
        e.is("none of LINE 0", x.fallRoom(0, 6), 0);
        e.is("none of LINE 1", x.fallRoom(1, 6), 0);
        x.out(1);
        e.is("of 9 and 8", x.fallRoom(2, 6), 9);
        x.out(0);
        e.is("8 alone", x.fallRoom(2, 6), 8);
        e.is("ahead of its FIRST", x.fallRoom(2, 5), 0);
        x.out(2);
        e.is("none any more", x.fallRoom(2, 6), 0);
        SliceSeller y = Nets.pair(2, 50);
        y.slice(0, 0, 1, 20, 9);
        y.letIn(0);
        e.is("one that is not SURE", y.fallRoom(1, 0), 0);
    }

    private void termsAllHolds() {
        e.terms("ALL HOLDS if at each TICK each LINE has LOAD and FALLROOM of ROOM at most together, and each NODE WORKS,"
                + " together, of SLICES that are IN, COUNT then and have it as their HOST, of WORKROOM at most");
        for (int tick = 0; tick < 24; tick += 23) {
            dueJustRoom(tick);
            dueJustFallRoom(tick);
            dueJustWorkroom(tick);
        }
        dueFallRoomOfEachLine();
        for (int tick = 0; tick < 24; tick++) {
            dueFallRoomAtOneTick(tick);
        }
    }

    private void dueFallRoomOfEachLine() {
        // What LINE 1 holds for the fall of LINE 0 is nothing to LINES 2 and 3, which have less ROOM.
        SliceSeller x = Nets.nodes(2, 100);
        for (int i = 0; i < 4; i++) {
            x.line(0, 1, i < 2 ? 10 : 3, 1 + i, 0);
        }
        x.slice(1, 0, 1, 10, 4);
        x.letIn(0);
        x.up(1, false);
        x.slice(1, 0, 1, 3, 4);
        e.is("WAY 2 and SPARE 3", x.letIn(1), 16);
        e.is("FALLROOM of LINE 1", x.fallRoom(1, 0), 10);
        e.is("FALLROOM of LINE 3", x.fallRoom(3, 0), 3);
    }

    private void dueFallRoomAtOneTick(int tick) {
        SliceSeller x = Nets.nodes(2, 100);
        x.line(0, 1, 20, 1, 0);
        x.line(0, 1, 10, 2, 0);
        x.slice(1, 0, 1, 6, 2);
        x.span(0, tick, tick, 0);
        x.letIn(0);
        x.slice(1, 0, 1, 5, 2);
        e.is("6 and 5 fall from LINE 0 at TICK " + tick, x.why(1), 3);
        x.span(1, tick, tick, 0);
        e.is("both at that TICK alone", x.why(1), 3);
        int other = (tick + 1) % 24;
        x.span(1, other, other, 0);
        e.is("one behind the other", x.letIn(1), 0);
        e.is("FALLROOM then", x.fallRoom(1, tick), 6);
        e.is("and then", x.fallRoom(1, other), 5);
    }

    private void dueJustRoom(int tick) {
        SliceSeller x = Nets.pair(1, 12);
        x.slice(0, 0, 1, 10, 9);
        x.span(0, tick, tick, 0);
        x.letIn(0);
        x.slice(0, 0, 1, 3, 9);
        x.slice(0, 0, 1, 2, 9);
        e.is("one more than ROOM at TICK " + tick, x.letIn(1), Edges.NONE);
        e.is("just the ROOM at TICK " + tick, x.letIn(2), 0);
    }

    private void dueJustFallRoom(int tick) {
        // LINE 1 carries 5 of a plain SLICE; the SPARE of a SURE one may take the other 7.
        SliceSeller x = Nets.pair(2, 12);
        x.slice(0, 0, 1, 5, 9);
        x.span(0, tick, tick, 0);
        x.up(0, false);
        x.letIn(0);
        x.up(0, true);
        x.slice(1, 0, 1, 8, 9);
        x.slice(1, 0, 1, 7, 9);
        e.is("LOAD and FALLROOM are one more at TICK " + tick, x.letIn(1), Edges.NONE);
        e.is("LOAD and FALLROOM just so at TICK " + tick, x.letIn(2), 0);
        x.slice(0, 0, 1, 1, 2);
        x.up(0, false);
        e.is("no LOAD more where FALLROOM has the rest", x.why(3), 3);
        x.up(0, true);
        e.is("but where it has not", x.letIn(3), 0);
    }

    private void dueJustWorkroom(int tick) {
        SliceSeller x = new SliceSeller();
        x.node(15);
        x.node(0);
        x.line(0, 1, 50, 1, 0);
        x.slice(0, 0, 1, 1, 9);
        x.terms(0, 0, 10, 0);
        x.span(0, tick, tick, 0);
        x.letIn(0);
        x.slice(0, 0, 1, 1, 9);
        x.terms(1, 0, 6, 0);
        x.slice(0, 0, 1, 1, 9);
        x.terms(2, 0, 5, 0);
        e.is("one more than WORKROOM at TICK " + tick, x.why(1), 4);
        e.is("just the WORKROOM at TICK " + tick, x.letIn(2), 0);
        x.terms(1, 0, 0, 0);
        e.is("WORK 0", x.letIn(1), 0);
    }

    private void sliceNumber() {
        e.promise(9, "A new SLICE, not IN: its number");
        SliceSeller x = Nets.pair(1, 50);
        e.is("the first one", x.slice(0, 0, 1, 1, 1), 0);
        e.is("a refused one", x.slice(0, 0, 1, 0, 1), Edges.BEYOND);
        e.is("takes no number", x.slice(4, 1, 0, 20, 99), 1);
        e.is("not IN", x.of(1, 11), 0);
        e.is("told(2)", x.told(2), 2);
        e.is("told(3)", x.told(3), 0);
        e.is("NODES without a LINE will do", lone().told(2), 1);
    }

    private void sliceBeyond() {
        e.promise(9, "BEYOND: no such kind, NODE (either), they are one, or a number is not as told");
        e.refuses("no NODES", SliceSeller::new, x -> x.slice(0, 0, 1, 1, 1), Edges.BEYOND);
        e.refuses("one NODE", () -> Nets.nodes(1, 0), x -> x.slice(0, 0, 1, 1, 1), Edges.BEYOND);
        e.within("kind", Nets::busy, 0, 4, (x, v) -> x.slice(v, 0, 1, 1, 1));
        e.within("a", Nets::busy, 0, 2, (x, v) -> x.slice(0, v, 3, 1, 1));
        e.within("b", Nets::busy, 1, 3, (x, v) -> x.slice(0, 0, v, 1, 1));
        for (int n = 0; n < 4; n++) {
            int node = n;
            e.refuses("they are one: " + n, Nets::busy, x -> x.slice(0, node, node, 1, 1), Edges.BEYOND);
        }
        e.within("rate", Nets::busy, 1, 20, (x, v) -> x.slice(0, 0, 1, v, 1));
        e.within("bound", Nets::busy, 1, 99, (x, v) -> x.slice(0, 0, 1, 1, v));
    }

    private static SliceSeller slices(int n) {
        SliceSeller x = Nets.pair(1, 1);
        for (int i = 0; i < n; i++) {
            x.slice(0, 0, 1, 1, 1);
        }
        return x;
    }

    private void sliceFull() {
        e.promise(9, "FULL");
        e.is("the eighth one goes", slices(7).slice(0, 0, 1, 1, 1), 7);
        e.refuses("a ninth one", () -> slices(8), x -> x.slice(0, 0, 1, 1, 1), Edges.FULL);
        for (int k = 0; k < 5; k++) {
            int kind = k;
            e.refuses("a ninth one of kind " + k, Nets::full, x -> x.slice(kind, 5, 0, 20, 99), Edges.FULL);
        }
        SliceSeller y = slices(8);
        y.letIn(0);
        y.out(0);
        e.is("one that is out is a SLICE still", y.slice(0, 0, 1, 1, 1), Edges.FULL);
    }

    private void termsOne() {
        e.promise(10, "LEAST, WORK and PRICE of a SLICE: 1");
        SliceSeller x = slices(8);
        e.is("greatest, of the last one", x.terms(7, 1, 20, 1000), 1);
        e.is("LEAST", x.of(7, 5), 1);
        e.is("WORK", x.of(7, 6), 20);
        e.is("PRICE", x.of(7, 7), 1000);
        e.is("of another one", x.of(6, 7), 0);
        e.is("the same again", x.terms(7, 1, 20, 1000), 1);
        e.is("least", x.terms(7, 0, 0, 0), 1);
        e.is("PRICE", x.of(7, 7), 0);
    }

    private void termsBeyond() {
        e.promise(10, "BEYOND: no such SLICE, or a number is not as told");
        e.refuses("no SLICES", () -> Nets.pair(1, 1), x -> x.terms(0, 0, 0, 0), Edges.BEYOND);
        e.within("slice", () -> slices(8), 0, 7, (x, v) -> x.terms(v, 0, 0, 0));
        e.refuses("one that is not there yet", () -> slices(7), x -> x.terms(7, 0, 0, 0), Edges.BEYOND);
        int[] rates = {1, 7, 20};
        for (int rate : rates) {
            e.within("least of RATE " + rate, () -> rated(rate), 0, rate, (x, v) -> x.terms(0, v, 0, 0));
        }
        e.within("work", () -> rated(20), 0, 20, (x, v) -> x.terms(0, 0, v, 0));
        e.within("price", () -> rated(20), 0, 1000, (x, v) -> x.terms(0, 0, 0, v));
        e.refuses("one that is IN, and a wrong number", Nets::busy, x -> x.terms(0, 4, 0, 0), Edges.BEYOND);
    }

    /** A SLICE of a RATE, the next one of another. */
    private static SliceSeller rated(int rate) {
        SliceSeller x = Nets.pair(1, 50);
        x.slice(2, 0, 1, rate, 1);
        x.slice(2, 0, 1, 21 - rate, 1);
        return x;
    }

    private void termsState() {
        e.promise(10, "STATE: it is IN");
        for (int s = 0; s < 5; s++) {
            int slice = s;
            e.refuses("of kind " + s, Nets::busy, x -> x.terms(slice, 0, 0, 0), Edges.STATE);
        }
        SliceSeller y = Nets.busy();
        e.is("one that is not IN", y.terms(5, 0, 0, 0), 1);
        y.out(0);
        e.is("one that is out", y.terms(0, 0, 0, 0), 1);
        SliceSeller z = slices(2);
        z.lay(2);
        e.is("one that came IN by lay()", z.terms(1, 0, 0, 0), Edges.STATE);
        e.is("the other one", z.terms(0, 0, 0, 0), 1);
        z.lay(1);
        e.is("one that went by lay()", z.terms(1, 0, 0, 0), 1);
    }

    private void spanOne() {
        e.promise(11, "FIRST, LAST and HOURS of a SLICE: 1");
        SliceSeller x = slices(8);
        e.is("the last TICK alone, all HOURS, of the last one", x.span(7, 23, 23, 63), 1);
        e.is("FIRST", x.of(7, 8), 23);
        e.is("LAST", x.of(7, 9), 23);
        e.is("HOURS", x.of(7, 10), 63);
        e.is("of another one", x.of(6, 8), 0);
        e.is("the first TICK alone, no HOURS", x.span(7, 0, 0, 0), 1);
        e.is("LAST", x.of(7, 9), 0);
        e.is("HOURS", x.of(7, 10), 0);
        e.is("all TICKS", x.span(7, 0, 23, 32), 1);
        e.is("HOURS", x.of(7, 10), 32);
    }

    private void spanBeyond() {
        e.promise(11, "BEYOND: no such SLICE, or a number is not as told");
        e.refuses("no SLICES", () -> Nets.pair(1, 1), x -> x.span(0, 0, 0, 0), Edges.BEYOND);
        e.within("slice", () -> slices(8), 0, 7, (x, v) -> x.span(v, 0, 0, 0));
        e.within("first, with LAST 23", () -> slices(1), 0, 23, (x, v) -> x.span(0, v, 23, 0));
        e.within("first, with LAST 9", () -> slices(1), 0, 9, (x, v) -> x.span(0, v, 9, 0));
        e.within("first, with LAST 0", () -> slices(1), 0, 0, (x, v) -> x.span(0, v, 0, 0));
        e.within("last, with FIRST 0", () -> slices(1), 0, 23, (x, v) -> x.span(0, 0, v, 0));
        e.within("last, with FIRST 9", () -> slices(1), 9, 23, (x, v) -> x.span(0, 9, v, 0));
        e.within("last, with FIRST 23", () -> slices(1), 23, 23, (x, v) -> x.span(0, 23, v, 0));
        e.within("hours", () -> slices(1), 0, 63, (x, v) -> x.span(0, 0, 23, v));
        e.refuses("both TICKS 24", () -> slices(1), x -> x.span(0, 24, 24, 0), Edges.BEYOND);
        e.refuses("both TICKS -1", () -> slices(1), x -> x.span(0, -1, -1, 0), Edges.BEYOND);
        e.refuses("one that is IN, and a wrong number", Nets::busy, x -> x.span(0, 5, 4, 0), Edges.BEYOND);
    }

    private void spanState() {
        e.promise(11, "STATE: it is IN");
        for (int s = 0; s < 5; s++) {
            int slice = s;
            e.refuses("of kind " + s, Nets::busy, x -> x.span(slice, 0, 1, 0), Edges.STATE);
        }
        SliceSeller y = Nets.busy();
        e.is("one that is not IN", y.span(5, 0, 1, 0), 1);
        y.out(4);
        e.is("one that is out", y.span(4, 0, 1, 0), 1);
    }

    private void asNumber() {
        e.promise(12, "A SLICE as one of a kind: its number");
        SliceSeller x = Nets.full();
        for (int s = 0; s < 8; s++) {
            e.is("as its own kind", x.as(s, s % 5), s);
            e.is("as a SLICE", x.as(s, 0), s);
        }
        e.is("a SHARED one as ELASTIC", x.as(3, 2), 3);
        e.is("IN or not", Nets.busy().as(5, 1), 5);
    }

    private void asBeyond() {
        e.promise(12, "BEYOND: no such SLICE, or kind");
        e.refuses("no SLICES", () -> Nets.pair(1, 1), x -> x.as(0, 0), Edges.BEYOND);
        e.within("slice", Nets::busy, 0, 5, (x, v) -> x.as(v, 0));
        e.within("slice of eight", Nets::full, 0, 7, (x, v) -> x.as(v, 0));
        for (int k : Edges.outside(0, 4)) {
            e.refuses("kind " + k, Nets::busy, x -> x.as(4, k), Edges.BEYOND);
        }
    }

    private void asKind() {
        e.promise(12, "KIND: it is not of that kind, nor of one under it");
        int[][] not = {{0, 1}, {0, 2}, {0, 3}, {0, 4}, {1, 2}, {1, 3}, {1, 4}, {2, 1}, {2, 3}, {2, 4}, {3, 1}, {3, 4},
            {4, 1}, {4, 2}, {4, 3}};
        for (int[] n : not) {
            e.refuses("kind " + n[0] + " as " + n[1], Nets::busy, x -> x.as(n[0], n[1]), Edges.KIND);
        }
    }

    private void ofWhat() {
        e.promise(13, "Of a SLICE: 0 kind, 1 and 2 its ENDS, 3 RATE, 4 BOUND, 5 LEAST, 6 WORK, 7 PRICE, 8 FIRST, 9 LAST,"
                + " 10 HOURS, 11 1 if it is IN, else 0, 12 WAITING, 13 units that passed ever, 14 of these LENT,"
                + " 15 what they PAID, 16 units that passed in the latest TICK that was done (0 ahead of the first one),"
                + " 17 NEED");
        SliceSeller x = Nets.nodes(6, 100);
        x.line(5, 4, 8, 9, 9);
        x.slice(2, 5, 4, 20, 99);
        x.terms(0, 5, 20, 1000);
        x.span(0, 0, 22, 63);
        x.letIn(0);
        x.offer(0, 100);
        dueOf(x, 2, 5, 4, 20, 99, 5, 20, 1000, 0, 22, 63, 1, 100, 0, 0, 0, 0, 5);
        x.run(2);
        dueOf(x, 2, 5, 4, 20, 99, 5, 20, 1000, 0, 22, 63, 1, 84, 16, 6, 144, 8, 5);
        x.out(0);
        dueOf(x, 2, 5, 4, 20, 99, 5, 20, 1000, 0, 22, 63, 0, 84, 16, 6, 144, 8, 5);
        x.run(1);
        dueOf(x, 2, 5, 4, 20, 99, 5, 20, 1000, 0, 22, 63, 0, 84, 16, 6, 144, 0, 5);
        x.letIn(0);
        x.run(19);
        e.is("8 in each of 21 TICKS, till none is WAITING", x.of(0, 13), 100);
        e.is("4 in the 13th", x.of(0, 14), 3 * 12);
        x.offer(0, 9);
        x.run(1);
        e.is("at its LAST TICK", x.of(0, 16), 8);
        x.run(1);
        e.is("behind it", x.of(0, 16), 0);
        // A SLICE that is new passed none in a TICK that was done ahead of it.
        x.slice(0, 5, 4, 1, 99);
        e.is("of a new one", x.of(1, 16), 0);
    }

    private void dueOf(SliceSeller x, int... due) {
        for (int what = 0; what < 18; what++) {
            e.is("of(0, " + what + ")", x.of(0, what), due[what]);
        }
    }

    private void ofBeyond() {
        e.promise(13, "BEYOND: no such SLICE, or another what");
        e.refuses("no SLICES", () -> Nets.pair(1, 1), x -> x.of(0, 0), Edges.BEYOND);
        e.within("slice", Nets::busy, 0, 5, (x, v) -> x.of(v, 0));
        e.within("slice of eight", Nets::full, 0, 7, (x, v) -> x.of(v, 17));
        e.within("what", Nets::busy, 0, 17, (x, v) -> x.of(5, v));
    }

    private void placesWhatever() {
        e.promise(14, "How many PLACES a SLICE has (whatever is DOWN, and whether ALL HOLDS or not)");
        SliceSeller x = Nets.nodes(4, 0);
        x.slice(1, 0, 3, 20, 99);
        x.terms(0, 0, 20, 0);
        x.slice(0, 3, 0, 20, 99);
        e.is("none", x.places(0), 0);
        e.is("none", x.places(1), 0);
        for (int i = 0; i < 9; i++) {
            x.line(i % 3, i % 3 + 1, 1, 1, 0);
        }
        e.is("864, the most there can be", x.places(0), 864);
        e.is("27 WAYS with four HOSTS", x.places(1), 108);
        for (int i = 0; i < 9; i++) {
            x.up(i, false);
        }
        e.is("all is DOWN", x.places(0), 864);
        SliceSeller y = Nets.pair(2, 1);
        y.slice(0, 0, 1, 1, 9);
        y.slice(0, 0, 1, 1, 9);
        y.letIn(0);
        e.is("one that is IN", y.places(0), 4);
        e.is("a LINE is taken", y.places(1), 4);
    }

    private void placesBeyond() {
        e.promise(14, "BEYOND");
        e.refuses("no SLICES", () -> Nets.pair(1, 1), x -> x.places(0), Edges.BEYOND);
        e.within("slice", Nets::busy, 0, 5, SliceSeller::places);
        e.within("slice of eight", Nets::full, 0, 7, SliceSeller::places);
    }
}
