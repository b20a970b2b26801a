/** The boundary cases of the day: number 4 of the terms, and promises 29 to 31. */
final class DayEdges {
    private final Edges e;

    DayEdges(Edges e) {
        this.e = e;
    }

    void test() {
        termsTheDay();
        termsWaiting();
        termsTakenWay();
        termsLeft();
        termsNeedsPass();
        termsLent();
        termsNotWaiting();
        termsNextTick();
        termsPays();
        offerHowMany();
        offerBeyond();
        offerFull();
        runHowMany();
        runBeyond();
        aboutWhat();
        aboutBeyond();
    }

    /** A SLICE of a kind that is IN on LINE 0, with so many units WAITING (at most 100). */
    private static SliceSeller one(int kind, int rate, int least, int room, int waiting) {
        SliceSeller x = Nets.pair(2, room);
        x.slice(kind, 0, 1, rate, 9);
        x.terms(0, least, 0, 0);
        x.span(0, 0, 23, 63);
        x.letIn(0);
        if (waiting > 0) {
            x.offer(0, waiting);
        }
        return x;
    }

    private void termsTheDay() {
        e.terms("THE DAY has TICKS 0 to 23; THE TICK is 0 at first");
        SliceSeller x = new SliceSeller();
        e.is("at first", x.told(4), 0);
        for (int t = 1; t <= 48; t++) {
            x.run(1);
            e.is("behind " + t + " TICKS", x.told(4), t % 24);
        }
    }

    private void termsWaiting() {
        e.terms("Each SLICE has WAITING units (0 to 1000; 0 at first)");
        SliceSeller x = Nets.pair(1, 1);
        for (int i = 0; i < 8; i++) {
            x.slice(0, 0, 1, 1, 1);
            e.is("at first", x.of(i, 12), 0);
        }
        for (int i = 1; i <= 10; i++) {
            e.is("a hundred more", x.offer(7, 100), 100 * i);
        }
        e.is("1001", x.offer(7, 1), Edges.FULL);
        e.is("1000", x.of(7, 12), 1000);
        e.is("the others", x.of(6, 12), 0);
        SliceSeller y = one(2, 20, 20, 50, 20);
        e.is("all go", y.run(1), 20);
        e.is("0 again", y.of(0, 12), 0);
        e.is("not below 0", y.run(24), 0);
        e.is("0 still", y.of(0, 12), 0);
    }

    private void termsTakenWay() {
        e.terms("The TAKEN WAY of a SLICE that is IN: its WAY, if all LINES of it are UP; else, of a SURE one, its SPARE,"
                + " if all LINES of that are UP; else there is none");
        // WAY 0-1-2 by LINES 0 and 1, SPARE 0-3-2 by LINES 2 and 3.
        for (int down = 0; down < 16; down++) {
            for (int kind = 0; kind < 2; kind++) {
                SliceSeller x = square(kind);
                for (int l = 0; l < 4; l++) {
                    x.up(l, (down >> l & 1) == 0);
                }
                boolean way = (down & 3) == 0;
                boolean spare = !way && kind == 1 && (down & 12) == 0;
                String name = "kind " + kind + ", DOWN " + down;
                e.is(name + ": passed", x.run(1), way || spare ? 3 : 0);
                e.is(name + ": LINE 0", x.about(0, 7), way ? 3 : 0);
                e.is(name + ": LINE 1", x.about(1, 7), way ? 3 : 0);
                e.is(name + ": LINE 2", x.about(2, 7), spare ? 3 : 0);
                e.is(name + ": LINE 3", x.about(3, 7), spare ? 3 : 0);
                e.is(name + ": took(-1)", x.took(-1), way || spare ? 0 : 1);
            }
        }
    }

    private static SliceSeller square(int kind) {
        SliceSeller x = Nets.nodes(4, 0);
        x.line(0, 1, 5, 1, 1);
        x.line(1, 2, 5, 1, 1);
        x.line(0, 3, 5, 2, 1);
        x.line(3, 2, 5, 2, 1);
        x.slice(kind, 0, 2, 3, 4);
        x.letIn(0);
        x.offer(0, 50);
        return x;
    }

    private void termsLeft() {
        e.terms("What a LINE has LEFT in THE TICK is its ROOM less the units that passed over it in THE TICK so far");
        // Both fall on LINE 2 of ROOM 10 in the same TICK.
        SliceSeller x = Nets.pair(3, 10);
        x.slice(1, 0, 1, 10, 3);
        x.slice(1, 0, 1, 10, 3);
        x.up(1, false);
        x.letIn(0);
        x.up(1, true);
        x.letIn(1);
        x.offer(0, 25);
        x.offer(1, 100);
        x.up(0, false);
        x.up(1, false);
        e.is("all is LEFT at first", x.run(1), 10);
        e.is("none is LEFT for the second", x.of(1, 16), 0);
        e.is("and in the next TICK again", x.run(1), 10);
        e.is("none is LEFT for the second", x.of(1, 16), 0);
        e.is("5 and what is LEFT", x.run(1), 10);
        e.is("the second has 5", x.of(1, 16), 5);
        e.is("and then all", x.run(1), 10);
        e.is("the second has 10", x.of(1, 16), 10);
        // What passed the one way and the other is one ROOM.
        SliceSeller y = Nets.pair(1, 3);
        for (int i = 0; i < 2; i++) {
            y.slice(3, i, 1 - i, 20, 1);
            y.letIn(i);
            y.offer(i, 50);
        }
        e.is("there and back together", y.run(1), 3);
    }

    private void termsNeedsPass() {
        e.terms("When a TICK is done: first SLICES by numbers: one that is IN, COUNTS at THE TICK and has a TAKEN WAY passes"
                + " as many units as are WAITING, but not more than its NEED, nor than any LINE of the TAKEN WAY has LEFT");
        int[][] waitingRateDue = {{0, 5, 0}, {1, 5, 1}, {4, 5, 4}, {5, 5, 5}, {6, 5, 5}, {100, 20, 20}, {100, 1, 1}};
        int[] kinds = {0, 1, 4};
        for (int kind : kinds) {
            for (int[] d : waitingRateDue) {
                SliceSeller x = one(kind, d[1], 0, 50, d[0]);
                e.is("kind " + kind + ", " + d[0] + " WAITING, RATE " + d[1], x.run(1), d[2]);
                e.is("none is LENT", x.of(0, 14), 0);
            }
        }
        SliceSeller y = one(0, 5, 0, 50, 10);
        y.out(0);
        e.is("one that is not IN", y.run(1), 0);
        dueFirstAndLast();
        dueByNumbers();
    }

    private void dueFirstAndLast() {
        SliceSeller x = Nets.pair(1, 5);
        x.slice(0, 0, 1, 5, 1);
        x.span(0, 1, 22, 0);
        x.letIn(0);
        for (int i = 0; i < 10; i++) {
            x.offer(0, 100);
        }
        e.is("ahead of its FIRST", x.run(1), 0);
        e.is("at its FIRST", x.run(1), 5);
        e.is("till its LAST", x.run(21), 105);
        e.is("told(4)", x.told(4), 23);
        e.is("behind its LAST", x.run(1), 0);
        e.is("the next day", x.run(24), 110);
    }

    private void dueByNumbers() {
        // A narrow LINE on the SPARE: as much as any LINE has LEFT.
        SliceSeller x = Nets.nodes(3, 0);
        x.line(0, 2, 9, 1, 0);
        x.line(0, 1, 9, 1, 0);
        x.line(1, 2, 4, 1, 0);
        x.slice(1, 0, 2, 4, 2);
        x.slice(0, 0, 1, 3, 1);
        x.slice(0, 1, 2, 4, 1);
        x.letIn(0);
        x.letIn(1);
        e.is("LINE 2 is held for the fall", x.letIn(2), Edges.NONE);
        for (int i = 0; i < 2; i++) {
            x.offer(i, 50);
        }
        x.up(0, false);
        e.is("4 by the SPARE, and 3", x.run(1), 7);
        e.is("LINE 1", x.about(1, 7), 7);
        e.is("LINE 2", x.about(2, 7), 4);
        dueNarrowest();
        // Falls that were never to meet meet: the lower number goes first, whoever came IN first.
        SliceSeller y = Nets.pair(3, 10);
        y.slice(1, 0, 1, 8, 3);
        y.slice(1, 0, 1, 9, 3);
        y.up(0, false);
        y.letIn(1);
        y.up(0, true);
        y.letIn(0);
        y.offer(0, 50);
        y.offer(1, 50);
        e.is("SLICE 1 on LINE 1", y.wayOf(1, false, 0), 1);
        e.is("SLICE 0 on LINE 0", y.wayOf(0, false, 0), 0);
        e.is("with SPARE 2", y.wayOf(0, true, 0), 2);
        y.up(0, false);
        y.up(1, false);
        y.run(1);
        e.is("SLICE 0", y.of(0, 16), 8);
        e.is("SLICE 1", y.of(1, 16), 2);
    }

    private void dueNarrowest() {
        // Both fall on the SPARE 0-2-1, LINES 2 and 3, of which the one or the other is the narrower.
        int[][] rooms = {{10, 9, 1}, {9, 10, 1}, {10, 10, 2}, {8, 10, 0}};
        for (int[] r : rooms) {
            SliceSeller x = Nets.nodes(3, 0);
            x.line(0, 1, 8, 1, 0);
            x.line(0, 1, 8, 1, 0);
            x.line(0, 2, r[0], 1, 0);
            x.line(2, 1, r[1], 1, 0);
            for (int i = 0; i < 2; i++) {
                x.slice(1, 0, 1, 8, 2);
                x.up(1 - i, false);
                x.letIn(i);
                x.up(1 - i, true);
                x.offer(i, 50);
            }
            e.is("SPARE of both", x.wayOf(0, true, 1) + x.wayOf(1, true, 1), 6);
            x.up(0, false);
            x.up(1, false);
            x.run(1);
            e.is("ROOMS " + r[0] + " and " + r[1] + ", SLICE 0", x.of(0, 16), 8);
            e.is("ROOMS " + r[0] + " and " + r[1] + ", SLICE 1", x.of(1, 16), r[2]);
        }
    }

    private void termsLent() {
        e.terms("Then what is LEFT is LENT: SLICES are gone round by numbers (from 0 again behind the last one), from the one"
                + " behind that to which a unit was LENT last (ever; from 0 at first): an ELASTIC one (SHARED, too) that is"
                + " IN, COUNTS at THE TICK, has a TAKEN WAY, WAITING units, has passed fewer units than its RATE in THE"
                + " TICK, and whose TAKEN WAY's LINES all have some LEFT, passes one unit, which is LENT; till a whole"
                + " round LENDS none");
        for (int kind = 0; kind < 5; kind++) {
            int[] passed = {6, 6, 6, 6, 6};
            int[] lent = {0, 0, 4, 6, 0};
            SliceSeller x = one(kind, 6, 2, 50, 100);
            x.run(1);
            e.is("up to RATE, kind " + kind, x.of(0, 16), passed[kind]);
            e.is("of these LENT", x.of(0, 14), lent[kind]);
        }
        dueOneElastic();
        dueRounds();
        dueRoundWraps();
        dueWhoBorrowsNot();
    }

    private void dueOneElastic() {
        int[][] cases = {
            // RATE, LEAST, ROOM, WAITING; passed, LENT
            {6, 6, 50, 100, 6, 0}, {6, 5, 50, 100, 6, 1}, {6, 0, 50, 100, 6, 6}, {6, 2, 3, 100, 3, 1},
            {6, 2, 2, 100, 2, 0}, {6, 2, 50, 2, 2, 0}, {6, 2, 50, 3, 3, 1}, {6, 2, 50, 1, 1, 0}, {6, 0, 50, 0, 0, 0},
            {20, 0, 50, 100, 20, 20}, {1, 0, 1, 1, 1, 1}};
        for (int[] c : cases) {
            SliceSeller x = one(2, c[0], c[1], c[2], c[3]);
            String name = java.util.Arrays.toString(c);
            e.is(name + " passed", x.run(1), c[4]);
            e.is(name + " LENT", x.of(0, 14), c[5]);
        }
    }

    /** So many SHARED SLICES of RATE 20 on one LINE, all IN, with 100 units WAITING each. */
    private static SliceSeller shared(int n, int room) {
        SliceSeller x = Nets.pair(1, room);
        for (int i = 0; i < n; i++) {
            x.slice(3, 0, 1, 20, 1);
            x.letIn(i);
            x.offer(i, 100);
        }
        return x;
    }

    private void dueRounds() {
        SliceSeller x = shared(8, 1);
        for (int t = 0; t < 17; t++) {
            x.run(1);
            for (int i = 0; i < 8; i++) {
                e.is("one unit a TICK: TICK " + t + ", SLICE " + i, x.of(i, 16), i == t % 8 ? 1 : 0);
            }
        }
        // Eight at a time make a whole round; nine go one further on.
        SliceSeller y = shared(8, 8);
        y.run(3);
        e.is("a whole round a TICK, SLICE 7", y.of(7, 14), 3);
        SliceSeller z = shared(8, 9);
        z.run(1);
        e.is("one round and 0 again", z.of(0, 16), 2);
        z.run(1);
        e.is("then from 1 on", z.of(0, 16), 1);
        e.is("and 1 again", z.of(1, 16), 2);
        // Alone it borrows time and again.
        SliceSeller w = shared(1, 7);
        e.is("one SLICE goes round alone", w.run(1), 7);
        e.is("no SLICES: no round", new SliceSeller().run(1), 0);
    }

    private void dueRoundWraps() {
        // The last one was LENT to; behind it the round begins with 0, or with a new SLICE.
        SliceSeller x = shared(3, 3);
        x.run(1);
        x.out(0);
        x.run(1);
        // From 0 on, which is out: 1, 2, 1.
        e.is("SLICE 1", x.of(1, 16), 2);
        e.is("SLICE 2", x.of(2, 16), 1);
        x.letIn(0);
        x.run(1);
        e.is("from 2 on: 2, 0, 1", x.of(0, 16) * 100 + x.of(1, 16) * 10 + x.of(2, 16), 111);
        SliceSeller y = shared(2, 2);
        y.run(1);
        y.slice(3, 0, 1, 20, 1);
        y.letIn(2);
        y.offer(2, 100);
        y.run(1);
        e.is("1 was last: a new one is behind it", y.of(2, 16), 1);
        e.is("then 0", y.of(0, 16), 1);
        e.is("and not 1", y.of(1, 16), 0);
        // NEEDS move the turn on by none.
        SliceSeller z = shared(2, 1);
        z.run(1);
        z.slice(0, 0, 1, 1, 1);
        z.letIn(2);
        z.offer(2, 3);
        e.is("three TICKS by NEED alone", z.run(3), 3);
        z.run(1);
        e.is("the turn of 1 still", z.of(1, 16), 1);
        // The turn stays over a day's end.
        z.run(18);
        e.is("told(4)", z.told(4), 23);
        int before = z.of(0, 14);
        z.run(1);
        e.is("TICK 23 is 0's or 1's", z.of(0, 14) - before + z.of(1, 16), 1);
        int last = z.of(0, 16);
        z.run(1);
        e.is("TICK 0 is the other one's", z.of(0, 16), 1 - last);
    }

    private void dueWhoBorrowsNot() {
        // SLICES 0 and 1 share LINE 0; 1 needs LINE 1 as well, which has 1.
        SliceSeller x = Nets.nodes(3, 0);
        x.line(0, 1, 6, 1, 0);
        x.line(1, 2, 1, 1, 0);
        x.slice(3, 0, 1, 3, 9);
        x.slice(3, 0, 2, 20, 9);
        x.slice(3, 0, 1, 20, 9);
        for (int i = 0; i < 3; i++) {
            x.letIn(i);
        }
        x.offer(0, 100);
        x.offer(1, 100);
        x.offer(2, 1);
        e.is("3 by RATE, 1 by LINE 1, 1 by what is WAITING", x.run(1), 5);
        e.is("its RATE", x.of(0, 16), 3);
        e.is("the narrowest LINE", x.of(1, 16), 1);
        e.is("none WAITING", x.of(2, 16), 1);
        x.up(1, false);
        e.is("no TAKEN WAY", x.run(1), 3);
        e.is("SLICE 1", x.of(1, 16), 0);
        x.out(0);
        e.is("not IN", x.run(1), 0);
        SliceSeller y = Nets.pair(1, 5);
        y.slice(2, 0, 1, 5, 1);
        y.span(0, 1, 1, 0);
        y.letIn(0);
        y.offer(0, 100);
        e.is("it does not COUNT yet", y.run(1), 0);
        e.is("it does", y.run(1), 5);
        e.is("nor any more", y.run(22), 0);
    }

    private void termsNotWaiting() {
        e.terms("Units that pass are not WAITING any more");
        SliceSeller x = one(2, 9, 4, 50, 30);
        int[] due = {21, 12, 3, 0, 0};
        for (int waiting : due) {
            x.run(1);
            e.is("WAITING", x.of(0, 12), waiting);
            e.is("and passed", x.of(0, 13), 30 - waiting);
        }
    }

    private void termsNextTick() {
        e.terms("Then THE TICK is the next one (0 behind 23)");
        SliceSeller x = Nets.pair(1, 1);
        x.slice(0, 0, 1, 1, 1);
        x.span(0, 23, 23, 0);
        x.letIn(0);
        x.slice(0, 0, 1, 1, 1);
        x.span(1, 0, 0, 0);
        x.letIn(1);
        x.offer(0, 9);
        x.offer(1, 9);
        e.is("TICKS 0 to 22", x.run(23), 1);
        e.is("THE TICK", x.told(4), 23);
        e.is("TICK 23", x.run(1), 1);
        e.is("SLICE 0", x.of(0, 16), 1);
        e.is("0 behind 23", x.told(4), 0);
        e.is("TICK 0", x.run(1), 1);
        e.is("SLICE 1", x.of(1, 16), 1);
        x.run(22);
        e.is("over the day's end in one call", x.run(24), 2);
        e.is("THE TICK", x.told(4), 23);
        e.is("a refused run leaves THE TICK", x.run(25), Edges.BEYOND);
        e.is("THE TICK", x.told(4), 23);
    }

    private void termsPays() {
        e.terms("A unit that passes PAYS the PRICES of the LINES of the TAKEN WAY together;"
                + " each of these LINES EARNS its PRICE");
        SliceSeller x = Nets.nodes(6, 0);
        for (int i = 0; i < 5; i++) {
            x.line(i, i + 1, 50, 1, i < 4 ? 9 : 0);
        }
        x.line(0, 5, 50, 9, 9);
        x.slice(1, 0, 5, 20, 9);
        x.letIn(0);
        x.offer(0, 100);
        x.run(1);
        e.is("four of PRICE 9 and one of 0", x.of(0, 15), 20 * 36);
        e.is("told(7)", x.told(7), 20 * 36);
        e.is("a LINE of PRICE 9", x.about(3, 8), 180);
        e.is("the LINE of PRICE 0", x.about(4, 8), 0);
        e.is("the SPARE's LINE", x.about(5, 8), 0);
        x.up(4, false);
        x.run(1);
        e.is("the SPARE's PRICE is PAID", x.of(0, 15), 20 * 36 + 180);
        e.is("the SPARE's LINE EARNS", x.about(5, 8), 180);
        e.is("the WAY's do not", x.about(3, 8), 180);
        SliceSeller y = shared(1, 1);
        y.run(24);
        e.is("of PRICE 0", y.of(0, 15), 0);
    }

    private void offerHowMany() {
        e.promise(29, "So many units more (1 to 100) are WAITING at a SLICE: how many are");
        SliceSeller x = Nets.pair(1, 1);
        for (int i = 0; i < 8; i++) {
            x.slice(0, 0, 1, 1, 1);
        }
        e.is("1", x.offer(7, 1), 1);
        e.is("100 more", x.offer(7, 100), 101);
        e.is("one of another SLICE", x.offer(0, 1), 1);
        e.is("whether it is IN or not", x.of(7, 11), 0);
        x.letIn(7);
        e.is("IN", x.offer(7, 1), 102);
        x.run(1);
        e.is("one passed", x.offer(7, 1), 102);
    }

    private void offerBeyond() {
        e.promise(29, "BEYOND");
        e.refuses("no SLICES", () -> Nets.pair(1, 1), x -> x.offer(0, 1), Edges.BEYOND);
        e.within("slice", Nets::busy, 0, 5, (x, v) -> x.offer(v, 1));
        e.within("v", Nets::busy, 1, 100, (x, v) -> x.offer(0, v));
        for (int s : Edges.outside(0, 7)) {
            e.refuses("slice " + s + " of eight", Nets::full, x -> x.offer(s, 1), Edges.BEYOND);
        }
        e.refuses("v 0 where 1000 wait", Nets::full, x -> x.offer(0, 0), Edges.BEYOND);
        e.refuses("v 101 where 1000 wait", Nets::full, x -> x.offer(0, 101), Edges.BEYOND);
    }

    private static SliceSeller waiting(int units) {
        SliceSeller x = Nets.pair(1, 1);
        x.slice(0, 0, 1, 1, 1);
        x.slice(0, 0, 1, 1, 1);
        for (int left = units; left > 0; left -= 100) {
            x.offer(1, Math.min(left, 100));
        }
        return x;
    }

    private void offerFull() {
        e.promise(29, "FULL: there would be more than 1000");
        e.is("just 1000", waiting(900).offer(1, 100), 1000);
        e.is("just 1000", waiting(999).offer(1, 1), 1000);
        e.refuses("1001", () -> waiting(901), x -> x.offer(1, 100), Edges.FULL);
        e.refuses("1001", () -> waiting(999), x -> x.offer(1, 2), Edges.FULL);
        e.refuses("1001", () -> waiting(1000), x -> x.offer(1, 1), Edges.FULL);
        e.refuses("1100", Nets::full, x -> x.offer(0, 100), Edges.FULL);
        e.is("another SLICE", waiting(1000).offer(0, 100), 100);
        SliceSeller x = waiting(1000);
        x.letIn(1);
        x.run(1);
        e.is("one passed: one more may come", x.offer(1, 2), Edges.FULL);
        e.is("one passed: one more may come", x.offer(1, 1), 1000);
    }

    private void runHowMany() {
        e.promise(30, "n TICKS (1 to 24) are done: how many units passed");
        e.is("one TICK", one(0, 5, 0, 50, 100).run(1), 5);
        e.is("twenty", one(0, 5, 0, 50, 100).run(20), 100);
        e.is("24, of which four have none", one(0, 5, 0, 50, 100).run(24), 100);
        e.is("24 with all there is", waitingFor(0).run(24), 480);
        SliceSeller x = waitingFor(0);
        int sum = 0;
        for (int n = 1; n <= 6; n++) {
            sum += x.run(n);
        }
        e.is("what passed in these TICKS alone", sum, 21 * 20);
        e.is("told(6)", x.told(6), 21 * 20);
        e.is("of all SLICES together", Nets.full().run(1) > 0 ? 1 : 0, 1);
        SliceSeller y = shared(8, 50);
        e.is("eight borrow all ROOM", y.run(1), 50);
        e.is("nothing passes without SLICES", new SliceSeller().run(24), 0);
    }

    /** A SLICE of RATE 20 with 1000 units WAITING. */
    private static SliceSeller waitingFor(int kind) {
        SliceSeller x = one(kind, 20, 0, 50, 0);
        for (int i = 0; i < 10; i++) {
            x.offer(0, 100);
        }
        return x;
    }

    private void runBeyond() {
        e.promise(30, "BEYOND");
        e.within("n", Nets::busy, 1, 24, SliceSeller::run);
        e.within("n in a new object", SliceSeller::new, 1, 24, SliceSeller::run);
    }

    private void aboutWhat() {
        e.promise(31, "Of a LINE: 0 and 1 its NODES, 2 ROOM, 3 LATE, 4 PRICE, 5 1 if it is UP, else 0, 6 units that passed"
                + " over it ever, 7 in the latest TICK that was done, 8 what it EARNED");
        SliceSeller x = Nets.nodes(6, 0);
        for (int i = 0; i < 8; i++) {
            x.line(0, 1, 1, 1, 0);
        }
        x.line(5, 0, 50, 9, 9);
        x.slice(2, 0, 5, 20, 9);
        x.terms(0, 3, 0, 0);
        x.letIn(0);
        x.offer(0, 25);
        dueAbout(x, 5, 0, 50, 9, 9, 1, 0, 0, 0);
        x.run(1);
        dueAbout(x, 5, 0, 50, 9, 9, 1, 20, 20, 180);
        x.run(1);
        dueAbout(x, 5, 0, 50, 9, 9, 1, 25, 5, 225);
        x.up(8, false);
        dueAbout(x, 5, 0, 50, 9, 9, 0, 25, 5, 225);
        x.offer(0, 1);
        x.run(1);
        dueAbout(x, 5, 0, 50, 9, 9, 0, 25, 0, 225);
        x.up(8, true);
        x.run(2);
        // The latest TICK had none; the one ahead of it had one.
        dueAbout(x, 5, 0, 50, 9, 9, 1, 26, 0, 234);
        e.is("a LINE over which none passed", x.about(0, 6), 0);
        SliceSeller y = Nets.pair(1, 1);
        y.slice(0, 0, 1, 1, 1);
        y.letIn(0);
        y.offer(0, 1);
        y.run(1);
        y.line(0, 1, 1, 1, 0);
        e.is("a LINE that is new since the latest TICK", y.about(1, 7), 0);
    }

    private void dueAbout(SliceSeller x, int... due) {
        for (int what = 0; what < 9; what++) {
            e.is("about(8, " + what + ")", x.about(8, what), due[what]);
        }
    }

    private void aboutBeyond() {
        e.promise(31, "BEYOND: no such LINE, or another what");
        e.refuses("no LINES", () -> Nets.nodes(2, 0), x -> x.about(0, 0), Edges.BEYOND);
        e.within("line", Nets::busy, 0, 5, (x, v) -> x.about(v, 0));
        e.within("line of nine", Nets::full, 0, 8, (x, v) -> x.about(v, 8));
        e.within("what", Nets::busy, 0, 8, (x, v) -> x.about(5, v));
    }
}
