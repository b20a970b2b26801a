import java.util.function.Supplier;

/** The boundary cases of laying anew: number 3 of the terms, and promises 25 to 28. */
final class LayEdges {
    private final Edges e;

    LayEdges(Edges e) {
        this.e = e;
    }

    void test() {
        termsToLay();
        termsDownPassedOver();
        termsTry();
        layCounts();
        layBeyond();
        laySpent();
        layNone();
        canWhether();
        canNothingChanges();
        canBeyondAndSpent();
        bestOrder();
        bestTogether();
        bestNothingChanges();
        triesLatest();
    }

    /** So many SLICES between two NODES with two LINES of ROOM 5, each of a RATE. */
    private static SliceSeller slices(int n, int rate) {
        SliceSeller x = Nets.pair(2, 5);
        for (int i = 0; i < n; i++) {
            x.slice(0, 0, 1, rate, 9);
            x.terms(i, 0, 0, 1);
        }
        return x;
    }

    private void termsToLay() {
        e.terms("TO LAY a set of SLICES: none being IN at first, they are gone through by numbers; each comes IN with the"
                + " first of its PLACES with which ALL HOLDS; where there is none, it is passed back to the SLICE ahead of"
                + " it, which comes IN with the next of its PLACES with which ALL HOLDS instead, and so on, till all of"
                + " the set are IN, or it is passed back ahead of the first one");
        SliceSeller x = slices(3, 5);
        e.is("the empty set", x.lay(0), 0);
        e.is("no TRY", x.tries(), 0);
        e.is("one", x.lay(4), 0);
        e.is("one TRY", x.tries(), 1);
        e.is("none being IN at first: 2 had LINE 0, 0 gets it", x.lay(1), 1);
        e.is("wayOf(0)", x.wayOf(0, false, 0), 0);
        e.is("two: by numbers", x.lay(6), 1);
        e.is("wayOf(1)", x.wayOf(1, false, 0), 0);
        e.is("wayOf(2)", x.wayOf(2, false, 0), 1);
        e.is("1, then two PLACES in vain and a third", x.tries(), 1 + 3);
        e.is("three: passed back ahead of the first one", x.lay(7), Edges.NONE);
        // Each of 4 PLACES of 0: 4 of 1, two of which are free, and with these 4 of 2 in vain.
        e.is("tries()", x.tries(), 4 * (1 + 4 + 2 * 4));
        duePassedBackTwice();
        dueFirstPlaceAgain();
        dueAtEachTick();
    }

    private void dueAtEachTick() {
        SliceSeller x = Nets.pair(1, 5);
        x.slice(0, 0, 1, 5, 1);
        x.slice(0, 0, 1, 5, 1);
        for (int t = 0; t < 24; t++) {
            int next = (t + 1) % 24;
            x.span(0, t, t, 0);
            x.span(1, t, t, 0);
            e.is("both at TICK " + t, x.can(3), 0);
            x.span(1, next, next, 0);
            e.is("one at TICK " + t + ", one at the next", x.can(3), 1);
            x.span(1, 0, 23, 0);
            e.is("one at TICK " + t + ", one at all", x.can(3), 0);
        }
    }

    private void duePassedBackTwice() {
        // SLICE 2 must have LINE 0; 1 has but PLACES beside it: it is passed back to 0, two ahead.
        SliceSeller x = Nets.pair(3, 5);
        x.slice(0, 0, 1, 5, 3);
        x.slice(0, 0, 1, 5, 3);
        x.slice(0, 0, 1, 5, 1);
        e.is("lay(7)", x.lay(7), 0);
        e.is("SLICE 0 by LINE 1", x.wayOf(0, false, 0), 1);
        e.is("SLICE 1 by LINE 2", x.wayOf(1, false, 0), 2);
        e.is("SLICE 2 by LINE 0", x.wayOf(2, false, 0), 0);
        // 0 on LINE 0 with either HOST: 6 PLACES of 1, four of them free, 2 in vain with each.
        int inVain = 2 * (1 + 6 + 4 * 2);
        // 0 on LINE 1: 1 on LINE 0 with either HOST, 2 in vain with each; then LINE 1 twice in vain, LINE 2; then 2.
        e.is("tries()", x.tries(), inVain + 1 + 2 * (1 + 2) + 2 + 1 + 1);
    }

    private void dueFirstPlaceAgain() {
        // SLICE 2 has but NODE 1, from TICK 12 on, when 0 does not COUNT: 1 must be at NODE 0, so 0 is not.
        SliceSeller x = new SliceSeller();
        x.node(10);
        x.node(10);
        x.node(0);
        x.line(0, 1, 50, 1, 0);
        x.line(1, 2, 50, 1, 0);
        x.slice(0, 0, 1, 1, 9);
        x.slice(0, 0, 1, 1, 9);
        x.slice(0, 1, 2, 1, 9);
        for (int i = 0; i < 3; i++) {
            x.terms(i, 0, 10, 0);
        }
        x.span(0, 0, 11, 0);
        x.span(2, 12, 23, 0);
        e.is("lay(7)", x.lay(7), 0);
        e.is("host(0)", x.host(0), 1);
        e.is("SLICE 1 had NODE 1, and begins with its first PLACE again", x.host(1), 0);
        e.is("host(2)", x.host(2), 1);
        e.is("tries()", x.tries(), 1 + 2 + 2 + 1 + 1 + 1);
    }

    private void termsDownPassedOver() {
        e.terms("PLACES with a LINE that is DOWN are passed over");
        SliceSeller x = slices(2, 5);
        x.up(0, false);
        e.is("LINE 0 is DOWN", x.lay(1), 0);
        e.is("no TRY of it", x.tries(), 1);
        e.is("wayOf(0)", x.wayOf(0, false, 0), 1);
        e.is("one LINE for two", x.can(3), 0);
        e.is("two PLACES, with each two in vain", x.tries(), 2 * (1 + 2));
        x.up(1, false);
        e.is("all is DOWN", x.can(1), 0);
        e.is("no TRY at all", x.tries(), 0);
        e.is("the empty set", x.lay(0), 1);
        SliceSeller y = Nets.pair(3, 5);
        y.slice(1, 0, 1, 5, 9);
        y.up(2, false);
        e.is("as a WAY and as a SPARE", y.can(1), 1);
        y.up(1, false);
        e.is("no SPARE is UP", y.can(1), 0);
        e.is("no TRY", y.tries(), 0);
    }

    /** 16, 4 and 6 PLACES that always hold, and 4 in vain: 16 + 64 + 384 + 1536 = 2000 TRIES. */
    private static SliceSeller justTwoThousand() {
        SliceSeller x = Nets.pair(8, 5);
        int[] bounds = {8, 2, 3, 2};
        for (int i = 0; i < 4; i++) {
            x.slice(0, 0, 1, i < 3 ? 1 : 20, bounds[i]);
        }
        return x;
    }

    /** 3, 18, 6 and 5 PLACES, the last five in vain: 3 + 54 + 324 + 1620 = 2001 TRIES. */
    private static SliceSeller oneMore() {
        SliceSeller x = Nets.nodes(3, 100);
        for (int i = 0; i < 6; i++) {
            x.line(0, 1, 5, 1 + i, 0);
        }
        x.line(1, 2, 5, 1, 0);
        x.line(0, 2, 5, 9, 0);
        int[] bounds = {2, 7, 3, 10};
        for (int i = 0; i < 4; i++) {
            x.slice(0, i < 3 ? 0 : 1, 2, i < 3 ? 1 : 20, bounds[i]);
        }
        return x;
    }

    private void termsTry() {
        e.terms("Each other PLACE for which it is asked whether ALL HOLDS is a TRY; where a 2001st TRY would come it is SPENT");
        SliceSeller x = justTwoThousand();
        e.is("just 2000", x.can(15), 0);
        e.is("tries()", x.tries(), 2000);
        SliceSeller y = oneMore();
        e.is("2001 would be", y.can(15), Edges.SPENT);
        e.is("tries()", y.tries(), 2000);
        e.is("one SLICE less", y.can(14), 0);
        e.is("18 + 108 + 540", y.tries(), 666);
        SliceSeller z = lastTry();
        e.is("five hold", z.can(31), 1);
        e.is("the last one with the 1999th TRY", z.tries(), 1999);
        e.is("six hold", z.can(63), 1);
        e.is("the last one with the 2000th", z.tries(), 2000);
        e.is("seven would", z.can(127), Edges.SPENT);
        e.is("tries()", z.tries(), 2000);
    }

    /**
     * SLICE 0 must leave LINE 0 to SLICE 4, which is found in vain for each of its two HOSTS: with 4, 8 and 10
     * PLACES of SLICES 1, 2 and 3, elsewhere, 2 * (1 + 4 + 32 + 320 + 640) = 1994 TRIES. Then six SLICES hold.
     */
    private static SliceSeller lastTry() {
        SliceSeller x = Nets.pair(2, 5);
        x.node(0);
        x.node(0);
        for (int i = 0; i < 5; i++) {
            x.line(2, 3, 5, 1 + i, 0);
        }
        x.slice(0, 0, 1, 1, 2);
        x.slice(0, 2, 3, 1, 2);
        x.slice(0, 2, 3, 1, 4);
        x.slice(0, 2, 3, 1, 5);
        x.slice(0, 0, 1, 5, 1);
        x.slice(0, 2, 3, 1, 1);
        x.slice(0, 2, 3, 1, 1);
        return x;
    }

    private void layCounts() {
        e.promise(25, "A set of SLICES is LAID; those of it are IN then with the PLACES that they got, others are not IN:"
                + " how many SLICES that were IN are not, or have another WAY, SPARE or HOST");
        SliceSeller x = slices(8, 1);
        e.is("none was IN", x.lay(255), 0);
        e.is("all are", x.told(3), 8);
        e.is("again: nothing moves", x.lay(255), 0);
        e.is("all go", x.lay(0), 8);
        e.is("none is", x.told(3), 0);
        e.is("none was IN", x.lay(128), 0);
        e.is("one comes, one goes", x.lay(1), 1);
        e.is("told(3)", x.told(3), 1);
        dueOthers();
    }

    private void dueOthers() {
        // Another WAY alone.
        SliceSeller x = slices(1, 5);
        x.up(0, false);
        x.letIn(0);
        x.up(0, true);
        e.is("another WAY", x.lay(1), 1);
        // Another SPARE alone.
        SliceSeller y = Nets.pair(3, 5);
        y.slice(1, 0, 1, 5, 9);
        y.up(1, false);
        y.letIn(0);
        y.up(1, true);
        e.is("another SPARE", y.lay(1), 1);
        // Another HOST alone.
        SliceSeller z = new SliceSeller();
        z.node(20);
        z.node(20);
        z.line(0, 1, 5, 1, 0);
        z.slice(0, 0, 1, 1, 1);
        z.slice(0, 0, 1, 1, 1);
        z.terms(0, 0, 20, 0);
        z.terms(1, 0, 20, 0);
        z.letIn(0);
        z.letIn(1);
        z.out(0);
        e.is("another HOST", z.lay(2), 1);
        e.is("host(1)", z.host(1), 0);
        // A new LINE makes its PLACE another number, not another PLACE.
        SliceSeller w = slices(1, 5);
        w.letIn(0);
        w.line(0, 1, 1, 1, 0);
        e.is("a LINE without ROOM for it ahead", w.lay(1), 0);
    }

    private void layBeyond() {
        e.promise(25, "BEYOND: the set has others than there are");
        e.refuses("lay(1) without SLICES", SliceSeller::new, x -> x.lay(1), Edges.BEYOND);
        e.refuses("lay(-1) without SLICES", SliceSeller::new, x -> x.lay(-1), Edges.BEYOND);
        dueSets("lay", SliceSeller::lay);
    }

    private void dueSets(String name, Edges.CallWith call) {
        for (int n = 1; n <= 8; n++) {
            int size = n;
            e.holds(name + " of all " + n, call.on(slices(n, 1), (1 << n) - 1) >= 0);
            int[] wrong = {1 << n, (2 << n) - 1, 1 << n | 1, -1, 1 << 31, 1 << 30, Edges.MAX, -256, 256, 65536};
            for (int set : wrong) {
                e.refuses(name + " " + set + " of " + n, () -> slices(size, 1), x -> call.on(x, set), Edges.BEYOND);
            }
        }
        e.refuses(name + " 64 of six", Nets::busy, x -> call.on(x, 64), Edges.BEYOND);
        e.refuses(name + " 256 of eight", Nets::full, x -> call.on(x, 256), Edges.BEYOND);
    }

    private void laySpent() {
        e.promise(25, "SPENT");
        Supplier<SliceSeller> made = () -> {
            SliceSeller x = oneMore();
            x.letIn(1);
            x.can(2);
            return x;
        };
        e.refuses("lay", made, x -> x.lay(15), Edges.SPENT);
        SliceSeller y = made.get();
        y.lay(15);
        e.is("tries()", y.tries(), 2000);
        e.is("what was IN is", y.of(1, 11), 1);
        e.is("and a set that can be is LAID then", y.lay(7), 0);
    }

    private void layNone() {
        e.promise(25, "NONE: it can't be LAID");
        Supplier<SliceSeller> made = () -> {
            SliceSeller x = slices(3, 5);
            x.letIn(1);
            x.letIn(2);
            return x;
        };
        e.refuses("lay", made, x -> x.lay(7), Edges.NONE);
        e.refuses("lay with just 2000 TRIES", LayEdges::justTwoThousand, x -> x.lay(15), Edges.NONE);
        e.refuses("lay without a PLACE", () -> {
            SliceSeller x = Nets.nodes(2, 0);
            x.slice(0, 0, 1, 1, 1);
            return x;
        }, x -> x.lay(1), Edges.NONE);
        SliceSeller y = made.get();
        y.lay(7);
        e.is("tries()", y.tries(), 4 * (1 + 4 + 2 * 4));
        e.is("the two that were IN are", y.told(3), 2);
    }

    private void canWhether() {
        e.promise(26, "Whether a set could be LAID: 1, else 0");
        SliceSeller x = slices(3, 5);
        e.is("the empty set", x.can(0), 1);
        e.is("the empty set of none", new SliceSeller().can(0), 1);
        e.is("two", x.can(5), 1);
        e.is("three", x.can(7), 0);
        e.is("that is no finding", x.told(5), 0);
        e.is("eight", slices(8, 1).can(255), 1);
        e.is("0 with just 2000 TRIES", justTwoThousand().can(15), 0);
    }

    private void canNothingChanges() {
        e.promise(26, "(Nothing changes");
        dueNothingChanges("can(7)", x -> x.can(7));
        dueNothingChanges("can(0)", x -> x.can(0));
        dueNothingChanges("can(63)", x -> x.can(63));
    }

    private void dueNothingChanges(String name, Edges.Call call) {
        for (int probe = 0; probe < Probe.COUNT; probe++) {
            SliceSeller asked = Nets.busy();
            SliceSeller other = Nets.busy();
            e.holds(name + " is no finding", call.on(asked) >= 0);
            e.holds(name + ", probe " + probe, Probe.see(asked, probe).equals(Probe.see(other, probe)));
        }
    }

    private void canBeyondAndSpent() {
        e.promise(26, "BEYOND; SPENT as of lay()");
        e.refuses("can(1) without SLICES", SliceSeller::new, x -> x.can(1), Edges.BEYOND);
        dueSets("can", SliceSeller::can);
        e.refuses("can", LayEdges::oneMore, x -> x.can(15), Edges.SPENT);
        e.is("2000 are not SPENT", justTwoThousand().can(15), 0);
    }

    private void bestOrder() {
        e.promise(27, "Sets of all SLICES there are, the one with the greatest PRICES together first, of like ones the"
                + " least as a number, are tried to be LAID, one behind the other, till one can be: that set (the empty"
                + " one always can)");
        e.is("no SLICES", new SliceSeller().best(), 0);
        SliceSeller x = Nets.nodes(2, 0);
        for (int i = 0; i < 8; i++) {
            x.slice(0, 0, 1, 1, 1);
            x.terms(i, 0, 0, 1000);
        }
        e.is("none has a PLACE", x.best(), 0);
        x.line(0, 1, 50, 1, 0);
        e.is("all eight, of 8000", x.best(), 255);
        e.is("eight TRIES", x.tries(), 8);
        for (int i = 0; i < 8; i++) {
            x.terms(i, 0, 0, 0);
        }
        e.is("all of PRICE 0: the empty one is the least", x.best(), 0);
        e.is("no TRY", x.tries(), 0);
        x.terms(7, 0, 0, 1);
        e.is("the least with SLICE 7", x.best(), 128);
        dueLeastOfLikeOnes();
        dueOrderOfSums();
        dueWithPriceNone();
    }

    private void dueWithPriceNone() {
        // SLICE 1 of PRICE 5 never fits: tried alone, then with SLICE 0 of PRICE 0, then comes the empty set.
        SliceSeller x = Nets.pair(1, 5);
        x.slice(0, 0, 1, 1, 1);
        x.slice(0, 0, 1, 6, 1);
        x.terms(1, 0, 0, 5);
        e.is("best()", x.best(), 0);
        e.is("2 alone; with either PLACE of SLICE 0, 2 more", x.tries(), 2 + 2 * (1 + 2));
        // The other way round: alone, then with SLICE 1.
        SliceSeller y = Nets.pair(1, 5);
        y.slice(0, 0, 1, 6, 1);
        y.slice(0, 0, 1, 1, 1);
        y.terms(0, 0, 0, 5);
        e.is("best()", y.best(), 0);
        e.is("2 alone; 2 ahead of SLICE 1", y.tries(), 2 + 2);
    }

    private void dueLeastOfLikeOnes() {
        // One LINE for one SLICE: 1, 2 and 3 cost the same.
        SliceSeller x = Nets.pair(1, 5);
        int[] prices = {4, 5, 5, 5};
        for (int i = 0; i < 4; i++) {
            x.slice(0, 0, 1, 5, 1);
            x.terms(i, 0, 0, prices[i]);
        }
        e.is("of three like ones the least", x.best(), 2);
        x.terms(0, 0, 0, 5);
        e.is("of four", x.best(), 1);
        x.terms(3, 0, 0, 6);
        e.is("a dearer one", x.best(), 8);
    }

    private void dueOrderOfSums() {
        // ROOM 10: one of 10 that costs 7, or two of 5 that cost 3 and 4 (or 5): a sum against one alone.
        SliceSeller x = Nets.pair(1, 10);
        int[] rates = {5, 5, 10};
        int[] prices = {3, 4, 7};
        for (int i = 0; i < 3; i++) {
            x.slice(0, 0, 1, rates[i], 1);
            x.terms(i, 0, 0, prices[i]);
        }
        e.is("7 and 3 + 4: the least as a number", x.best(), 3);
        x.terms(2, 0, 0, 8);
        e.is("8 is more", x.best(), 4);
        x.terms(0, 0, 0, 5);
        e.is("9 is more", x.best(), 3);
    }

    private void bestTogether() {
        e.promise(27, "TRIES of all of them count together; SPENT");
        SliceSeller x = Nets.pair(1, 5);
        x.slice(0, 0, 1, 6, 1);
        x.slice(0, 0, 1, 5, 1);
        x.terms(0, 0, 0, 9);
        x.terms(1, 0, 0, 1);
        e.is("best()", x.best(), 2);
        e.is("both: 2; the one: 2; the other one: 1", x.tries(), 2 + 2 + 1);
        Supplier<SliceSeller> dear = () -> {
            SliceSeller y = oneMore();
            for (int i = 0; i < 4; i++) {
                y.terms(i, 0, 0, 1000);
            }
            y.letIn(2);
            return y;
        };
        e.refuses("best", dear, SliceSeller::best, Edges.SPENT);
        SliceSeller y = dear.get();
        y.best();
        e.is("tries()", y.tries(), 2000);
        // The first set is not SPENT alone; the first TRY of the next one would be one too many.
        SliceSeller z = justTwoThousand();
        for (int i = 0; i < 4; i++) {
            z.terms(i, 0, 0, 10);
        }
        e.is("the dearest set alone", z.can(15), 0);
        e.is("2000 TRIES, then one more", z.best(), Edges.SPENT);
        e.is("tries()", z.tries(), 2000);
    }

    private void bestNothingChanges() {
        e.promise(27, "(Nothing changes");
        dueNothingChanges("best()", SliceSeller::best);
    }

    private void triesLatest() {
        e.promise(28, "How many TRIES the latest of lay(), can(), best() had that was not answered BEYOND (0 ahead of the"
                + " first one; 2000 if it was SPENT)");
        SliceSeller x = oneMore();
        e.is("ahead of the first one", x.tries(), 0);
        x.letIn(0);
        x.why(1);
        e.is("letIn() and why() have none", x.tries(), 0);
        e.is("BEYOND", x.lay(16), Edges.BEYOND);
        e.is("ahead of the first one still", x.tries(), 0);
        e.is("can(3)", x.can(3), 1);
        e.is("two", x.tries(), 2);
        e.is("BEYOND", x.can(16), Edges.BEYOND);
        e.is("BEYOND", x.lay(-1), Edges.BEYOND);
        e.is("two still", x.tries(), 2);
        e.is("SPENT", x.can(15), Edges.SPENT);
        e.is("2000", x.tries(), 2000);
        e.is("asked again", x.tries(), 2000);
        e.is("lay(1)", x.lay(1), 0);
        e.is("one", x.tries(), 1);
        e.is("NONE", x.lay(8), Edges.NONE);
        e.is("five", x.tries(), 5);
        e.is("best()", x.best(), 0);
        e.is("none: all are of PRICE 0", x.tries(), 0);
        e.is("tries() is no finding", x.told(5), 5);
    }
}
