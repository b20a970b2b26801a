import java.util.function.Supplier;

/** The boundary cases of calls as such and of sheets: findings, number 5 of the terms, promises 32 to 36. */
final class SheetEdges {
    private final Edges e;

    SheetEdges(Edges e) {
        this.e = e;
    }

    void test() {
        atMost512Calls();
        termsFindings();
        termsOrderOfFindings();
        termsSets();
        termsSheets();
        sheetNumbers();
        sheetBeyond();
        sheetSize();
        sheetAbove();
        writeNumber();
        writeBeyondSheet();
        writeMissing();
        writeBeyondNumber();
        copyNumbers();
        copyBeyondSheet();
        copyMissing();
        copyKind();
        copyBeyondNumbers();
        readUnits();
        readBeyondSheet();
        readMissing();
        readBeyondNumbers();
        readFull();
        toldWhat();
        toldBeyond();
    }

    private void atMost512Calls() {
        e.sentence("What it is",
                "An object is used for at most 512 calls after it has been made; what later calls answer is free");
        SliceSeller x = new SliceSeller();
        for (int i = 0; i < 511; i++) {
            x.told(-1);
        }
        e.is("the 512th call, behind refused ones", x.told(5), 511);
        // All units that 512 calls can bring over the dearest WAY: sums stay what they are.
        SliceSeller y = Nets.nodes(6, 0);
        for (int i = 0; i < 5; i++) {
            y.line(i, i + 1, 50, 1, 9);
        }
        y.slice(0, 0, 5, 20, 5);
        y.letIn(0);
        int passed = 0;
        for (int i = 0; i < 80; i++) {
            for (int k = 0; k < 5; k++) {
                y.offer(0, k < 4 ? 100 : 80);
            }
            passed += y.run(24);
        }
        e.is("480 a day for 80 days", passed, 80 * 480);
        e.is("PAID", y.of(0, 15), 80 * 480 * 45);
        e.is("EARNED", y.about(4, 8), 80 * 480 * 9);
        e.is("told(7)", y.told(7), 80 * 480 * 45);
    }

    private void termsFindings() {
        e.terms("FINDINGS are answers below -1000000: -1000001 BEYOND, -1000002 FULL, -1000003 STATE, -1000004 KIND,"
                + " -1000005 NONE, -1000006 SPENT, -1000007 MISSING, -1000008 SIZE");
        SliceSeller x = Nets.full();
        e.is("BEYOND", x.told(-1), -1000001);
        e.is("FULL", x.node(0), -1000002);
        e.is("STATE", x.letIn(0), -1000003);
        e.is("KIND", x.as(0, 1), -1000004);
        e.is("NONE", x.way(0, 1, 99, 0), -1000005);
        e.is("SPENT", spent().can(15), -1000006);
        e.is("MISSING", x.read(0), -1000007);
        e.is("SIZE", x.sheet(0, 8, -1), -1000008);
        e.is("told(5)", x.told(5), 7);
        // Answers that are no findings, though they are below 0.
        x.sheet(0, 32, 1);
        e.is("-1 behind the last LINE", x.way(0, 1, 0, 9), -1);
        e.is("what it was", x.write(0, 0, -1000001), 0);
        e.is("a number that looks like a finding", x.write(0, 0, Edges.MIN), -1000001);
        e.is("a number below all findings", x.write(0, 0, 0), Edges.MIN);
        e.is("told(5)", x.told(5), 7);
    }

    private static SliceSeller spent() {
        SliceSeller x = Nets.pair(9, 5);
        for (int i = 0; i < 4; i++) {
            x.slice(0, 0, 1, i < 3 ? 1 : 6, 99);
        }
        return x;
    }

    private void termsOrderOfFindings() {
        e.terms("Each act tells its findings in the order in which they are asked; an act that answers one changes nothing"
                + " but what told(5) and tries() tell");
        dueFirst("node: BEYOND ahead of FULL", Nets::full, x -> x.node(101), Edges.BEYOND);
        dueFirst("line: BEYOND ahead of FULL", Nets::full, x -> x.line(0, 1, 51, 1, 0), Edges.BEYOND);
        dueFirst("slice: BEYOND ahead of FULL", Nets::full, x -> x.slice(0, 0, 1, 21, 1), Edges.BEYOND);
        dueFirst("way: BEYOND ahead of NONE", Nets::busy, x -> x.way(0, 1, 99, -2), Edges.BEYOND);
        dueFirst("terms: BEYOND ahead of STATE", Nets::busy, x -> x.terms(0, 0, 21, 0), Edges.BEYOND);
        dueFirst("span: BEYOND ahead of STATE", Nets::busy, x -> x.span(0, 0, 24, 0), Edges.BEYOND);
        dueFirst("letIn: STATE ahead of NONE", SheetEdges::inAndDown, x -> x.letIn(0), Edges.STATE);
        dueFirst("wayOf: BEYOND ahead of STATE", Nets::busy, x -> x.wayOf(5, false, -1), Edges.BEYOND);
        dueFirst("wayOf: BEYOND ahead of KIND", Nets::busy, x -> x.wayOf(0, true, -1), Edges.BEYOND);
        dueFirst("wayOf: STATE ahead of KIND", SheetEdges::plainNotIn, x -> x.wayOf(0, true, 0), Edges.STATE);
        dueFirst("lay: BEYOND ahead of SPENT", SheetEdges::spent, x -> x.lay(31), Edges.BEYOND);
        dueFirst("can: BEYOND ahead of SPENT", SheetEdges::spent, x -> x.can(31), Edges.BEYOND);
        dueFirst("lay: SPENT, though it can't be LAID", SheetEdges::spent, x -> x.lay(15), Edges.SPENT);
        dueFirst("can: SPENT, though it can't be LAID", SheetEdges::spent, x -> x.can(15), Edges.SPENT);
        dueFirst("offer: BEYOND ahead of FULL", Nets::full, x -> x.offer(0, 101), Edges.BEYOND);
        dueOrderOfSheets();
    }

    private void dueOrderOfSheets() {
        dueFirst("sheet: BEYOND ahead of SIZE", Nets::busy, x -> x.sheet(4, 8, -1), Edges.BEYOND);
        dueFirst("sheet: bits ahead of SIZE", Nets::busy, x -> x.sheet(0, 9, -1), Edges.BEYOND);
        dueFirst("write: BEYOND ahead of MISSING", Nets::busy, x -> x.write(4, 9, 0), Edges.BEYOND);
        dueFirst("write: MISSING ahead of the number", Nets::busy, x -> x.write(3, -1, 0), Edges.MISSING);
        dueFirst("copy: BEYOND ahead of MISSING", Nets::busy, x -> x.copy(3, 0, 4, 0, 0), Edges.BEYOND);
        dueFirst("copy: MISSING ahead of KIND", Nets::busy, x -> x.copy(3, 0, 0, 0, 0), Edges.MISSING);
        dueFirst("copy: MISSING ahead of numbers", Nets::busy, x -> x.copy(0, -1, 3, -1, -1), Edges.MISSING);
        dueFirst("copy: KIND ahead of numbers", Nets::busy, x -> x.copy(0, -1, 1, -1, -1), Edges.KIND);
        dueFirst("read: BEYOND ahead of MISSING", SliceSeller::new, x -> x.read(4), Edges.BEYOND);
        dueFirst("read: MISSING ahead of more numbers", SliceSeller::new, x -> x.read(0), Edges.MISSING);
        dueFirst("read: BEYOND ahead of FULL", SheetEdges::fullAndAbove, x -> x.read(0), Edges.BEYOND);
    }

    private void dueFirst(String name, Supplier<SliceSeller> made, Edges.Call call, int finding) {
        e.refuses(name, made, call, finding);
    }

    private static SliceSeller inAndDown() {
        SliceSeller x = plainNotIn();
        x.letIn(0);
        x.up(0, false);
        return x;
    }

    private static SliceSeller plainNotIn() {
        SliceSeller x = Nets.pair(1, 1);
        x.slice(0, 0, 1, 1, 1);
        return x;
    }

    /** Number 0 would be too many for SLICE 0, number 1 is above 100. */
    private static SliceSeller fullAndAbove() {
        SliceSeller x = Nets.full();
        x.sheet(0, 16, 2);
        x.write(0, 0, 1);
        x.write(0, 1, 101);
        return x;
    }

    private void termsSets() {
        e.terms("Sets are told by bits");
        for (int i = 0; i < 8; i++) {
            SliceSeller x = Nets.full();
            x.lay(0);
            x.lay(1 << i);
            e.is("SLICE " + i + " alone is IN", x.told(3), 1);
            e.is("SLICE " + i + " is IN", x.of(i, 11), 1);
            for (int l = 0; l < 9; l++) {
                x.up(l, false);
            }
            e.is("took(-1)", x.took(-1), 1 << i);
        }
        for (int n = 0; n < 6; n++) {
            e.is("the set of NODE " + n, Nets.nodes(6, 0).cut(n, (n + 1) % 6, 0), 1 << n);
        }
        for (int h = 0; h < 6; h++) {
            SliceSeller y = Nets.pair(1, 1);
            y.slice(4, 0, 1, 1, 1);
            y.span(0, 0, 23, 1 << h);
            y.letIn(0);
            for (int t = 0; t < 24; t++) {
                e.is("HOUR " + h + " at TICK " + t, y.load(0, t), t % 6 == h ? 1 : 0);
            }
        }
    }

    private void termsSheets() {
        e.terms("SHEETS 0 to 3 are rows of up to 8 numbers of 8, 16 or 32 bits, or MISSING (all, at first)");
        SliceSeller x = new SliceSeller();
        int[] bits = {8, 16, 32};
        for (int s = 0; s < 4; s++) {
            e.is("MISSING at first", x.write(s, 0, 1), Edges.MISSING);
        }
        for (int s = 0; s < 4; s++) {
            e.is("eight numbers", x.sheet(s, bits[s % 3], 8), 8);
            e.is("the last one", x.write(s, 7, 1), 0);
            e.is("one behind it", x.write(s, 8, 1), Edges.BEYOND);
            e.is("nine numbers", x.sheet(s, bits[s % 3], 9), Edges.BEYOND);
        }
        e.is("no sheet 4", x.sheet(4, 8, 1), Edges.BEYOND);
        e.is("sheet 0 is as it was", x.write(0, 7, 1), 1);
    }

    private void sheetNumbers() {
        e.promise(32, "A sheet has n numbers, all 0, of 8, 16 or 32 bits; bits 0: it is MISSING: n (0)");
        int[] bits = {8, 16, 32};
        for (int b : bits) {
            for (int n = 0; n <= 8; n++) {
                SliceSeller x = new SliceSeller();
                e.is("n " + n, x.sheet(3, b, n), n);
                for (int i = 0; i < n; i++) {
                    e.is("0", x.write(3, i, -1), 0);
                }
                e.is("behind the last one", x.write(3, n, 0), Edges.BEYOND);
                e.is("made anew", x.sheet(3, b, n), n);
                for (int i = 0; i < n; i++) {
                    e.is("0 again", x.write(3, i, 0), 0);
                }
            }
        }
        SliceSeller y = new SliceSeller();
        y.sheet(1, 8, 8);
        e.is("bits 0", y.sheet(1, 0, 0), 0);
        e.is("MISSING", y.write(1, 0, 0), Edges.MISSING);
        e.is("bits 0 of one that is MISSING", y.sheet(1, 0, 0), 0);
        e.is("bits 0 and n 8", y.sheet(1, 0, 8), 0);
        e.is("MISSING", y.read(1), Edges.MISSING);
        e.is("a sheet of no numbers", y.sheet(1, 8, 0), 0);
        e.is("is not MISSING", y.read(1), 0);
        dueNoOldNumbers();
    }

    private void dueNoOldNumbers() {
        SliceSeller x = new SliceSeller();
        x.sheet(0, 32, 8);
        for (int i = 0; i < 8; i++) {
            x.write(0, i, 1000 + i);
        }
        x.sheet(0, 32, 2);
        x.sheet(0, 16, 8);
        for (int i = 0; i < 8; i++) {
            e.is("shorter, then longer: number " + i, x.write(0, i, 5), 0);
        }
        x.sheet(0, 0, 0);
        x.sheet(0, 8, 8);
        for (int i = 0; i < 8; i++) {
            e.is("MISSING, then there: number " + i, x.write(0, i, 5), 0);
        }
    }

    private void sheetBeyond() {
        e.promise(32, "BEYOND: no such sheet, or bits");
        e.within("s", Nets::busy, 0, 3, (x, v) -> x.sheet(v, 8, 1));
        e.within("s, bits 0", Nets::busy, 0, 3, (x, v) -> x.sheet(v, 0, 0));
        int[] wrong = {-1, 1, 2, 4, 7, 9, 15, 17, 24, 31, 33, 40, 64, -8, -16, -32, 256, 264, Edges.MIN, Edges.MAX};
        for (int bits : wrong) {
            e.refuses("bits " + bits, Nets::busy, x -> x.sheet(0, bits, 1), Edges.BEYOND);
        }
        int[] right = {0, 8, 16, 32};
        for (int bits : right) {
            e.holds("bits " + bits, Nets.busy().sheet(0, bits, 1) >= 0);
        }
    }

    private void sheetSize() {
        e.promise(32, "SIZE: n is below 0");
        int[] bits = {0, 8, 16, 32};
        int[] low = {-1, -2, -8, -256, Edges.MIN};
        for (int b : bits) {
            for (int n : low) {
                e.refuses("n " + n + ", bits " + b, Nets::busy, x -> x.sheet(0, b, n), Edges.SIZE);
            }
            e.is("n 0, bits " + b, Nets.busy().sheet(0, b, 0), 0);
        }
    }

    private void sheetAbove() {
        e.promise(32, "BEYOND: n is above 8");
        int[] bits = {0, 8, 16, 32};
        int[] high = {9, 10, 16, 32, 256, 264, Edges.MAX};
        for (int b : bits) {
            for (int n : high) {
                e.refuses("n " + n + ", bits " + b, Nets::busy, x -> x.sheet(0, b, n), Edges.BEYOND);
            }
            e.is("n 8, bits " + b, Nets.busy().sheet(0, b, 8), b == 0 ? 0 : 8);
        }
    }

    private void writeNumber() {
        e.promise(33, "Number i of a sheet becomes v (its lowest bits): what it was");
        int[][] wraps = {
            // bits, v, what it is then
            {8, 127, 127}, {8, 128, -128}, {8, 255, -1}, {8, 256, 0}, {8, -128, -128}, {8, -129, 127}, {8, -256, 0},
            {8, Edges.MAX, -1}, {8, Edges.MIN, 0}, {16, 32767, 32767}, {16, 32768, -32768}, {16, 65535, -1},
            {16, 65536, 0}, {16, -32768, -32768}, {16, -32769, 32767}, {16, Edges.MAX, -1}, {16, Edges.MIN, 0},
            {32, Edges.MAX, Edges.MAX}, {32, Edges.MIN, Edges.MIN}, {32, 65536, 65536}, {32, -1, -1}};
        for (int[] w : wraps) {
            SliceSeller x = new SliceSeller();
            x.sheet(0, w[0], 8);
            e.is("0 at first", x.write(0, 7, w[1]), 0);
            e.is(w[1] + " in " + w[0] + " bits", x.write(0, 7, 0), w[2]);
            e.is("the one ahead", x.write(0, 6, 0), 0);
        }
        SliceSeller y = new SliceSeller();
        for (int s = 0; s < 4; s++) {
            y.sheet(s, 32, 8);
        }
        for (int k = 0; k < 32; k++) {
            y.write(k / 8, k % 8, 100 + k);
        }
        for (int k = 0; k < 32; k++) {
            e.is("each of its own", y.write(k / 8, k % 8, 0), 100 + k);
        }
    }

    private void writeBeyondSheet() {
        e.promise(33, "BEYOND: no such sheet");
        for (int s : Edges.outside(0, 3)) {
            e.refuses("s " + s, Nets::busy, x -> x.write(s, 0, 1), Edges.BEYOND);
        }
    }

    private void writeMissing() {
        e.promise(33, "MISSING");
        for (int i = -1; i < 10; i++) {
            int number = i;
            e.refuses("number " + i, Nets::busy, x -> x.write(3, number, 1), Edges.MISSING);
        }
        e.refuses("in a new object", SliceSeller::new, x -> x.write(0, 0, 1), Edges.MISSING);
    }

    private void writeBeyondNumber() {
        e.promise(33, "BEYOND: no such number");
        e.within("i of three", Nets::busy, 0, 2, (x, v) -> x.write(0, v, 1));
        e.within("i of six", Nets::busy, 0, 5, (x, v) -> x.write(1, v, 1));
        e.within("i of eight", () -> sheetOf(8), 0, 7, (x, v) -> x.write(2, v, 1));
        e.refuses("i 0 of none", () -> sheetOf(0), x -> x.write(2, 0, 1), Edges.BEYOND);
    }

    private static SliceSeller sheetOf(int n) {
        SliceSeller x = new SliceSeller();
        x.sheet(2, 16, n);
        return x;
    }

    /** Sheets 0 and 1 of 8 bits with eight and three numbers, 10 to 17 and 20 to 22. */
    private static SliceSeller two() {
        SliceSeller x = new SliceSeller();
        x.sheet(0, 8, 8);
        x.sheet(1, 8, 3);
        for (int i = 0; i < 8; i++) {
            x.write(0, i, 10 + i);
        }
        for (int i = 0; i < 3; i++) {
            x.write(1, i, 20 + i);
        }
        return x;
    }

    private void dueRow(String name, SliceSeller x, int s, int... due) {
        for (int i = 0; i < due.length; i++) {
            e.is(name + ", number " + i, x.write(s, i, 0), due[i]);
        }
    }

    private void copyNumbers() {
        e.promise(34, "n numbers of a sheet from one on come to another one from one on (as they all were): n");
        SliceSeller x = two();
        e.is("all of the shorter one", x.copy(1, 0, 0, 5, 3), 3);
        dueRow("to the end", x, 0, 10, 11, 12, 13, 14, 20, 21, 22);
        dueRow("where it was", x, 1, 20, 21, 22);
        SliceSeller y = two();
        e.is("the last one", y.copy(0, 7, 1, 2, 1), 1);
        dueRow("to the last one", y, 1, 20, 21, 17);
        SliceSeller z = two();
        e.is("none", z.copy(0, 0, 1, 0, 0), 0);
        e.is("none from the end on", z.copy(0, 8, 1, 3, 0), 0);
        dueRow("nothing came", z, 1, 20, 21, 22);
        SliceSeller w = two();
        e.is("over itself, up", w.copy(0, 0, 0, 1, 7), 7);
        dueRow("as they all were", w, 0, 10, 10, 11, 12, 13, 14, 15, 16);
        w = two();
        e.is("over itself, down", w.copy(0, 1, 0, 0, 7), 7);
        dueRow("as they all were", w, 0, 11, 12, 13, 14, 15, 16, 17, 17);
        w = two();
        e.is("onto itself", w.copy(0, 0, 0, 0, 8), 8);
        dueRow("as they were", w, 0, 10, 11, 12, 13, 14, 15, 16, 17);
        SliceSeller v = new SliceSeller();
        v.sheet(2, 32, 1);
        v.sheet(3, 32, 1);
        v.write(2, 0, Edges.MIN);
        e.is("of 32 bits", v.copy(2, 0, 3, 0, 1), 1);
        dueRow("all bits", v, 3, Edges.MIN);
    }

    private void copyBeyondSheet() {
        e.promise(34, "BEYOND: no such sheet (either)");
        e.is("both are there", two().copy(0, 0, 1, 0, 1), 1);
        for (int s : Edges.outside(0, 3)) {
            e.refuses("from " + s, Nets::busy, x -> x.copy(s, 0, 0, 0, 1), Edges.BEYOND);
            e.refuses("to " + s, Nets::busy, x -> x.copy(0, 0, s, 0, 1), Edges.BEYOND);
            e.refuses("from and to " + s, Nets::busy, x -> x.copy(s, 0, s, 0, 1), Edges.BEYOND);
            e.refuses("from one that is MISSING to " + s, Nets::busy, x -> x.copy(3, 0, s, 0, 1), Edges.BEYOND);
        }
    }

    private void copyMissing() {
        e.promise(34, "MISSING: one is");
        e.refuses("from it", Nets::busy, x -> x.copy(3, 0, 0, 0, 1), Edges.MISSING);
        e.refuses("to it", Nets::busy, x -> x.copy(0, 0, 3, 0, 1), Edges.MISSING);
        e.refuses("both", Nets::busy, x -> x.copy(3, 0, 3, 0, 0), Edges.MISSING);
        e.refuses("none from it", Nets::busy, x -> x.copy(3, 0, 0, 0, 0), Edges.MISSING);
    }

    private void copyKind() {
        e.promise(34, "KIND: they are not of as many bits");
        for (int s = 0; s < 3; s++) {
            for (int t = 0; t < 3; t++) {
                int from = s;
                int to = t;
                if (s != t) {
                    e.refuses("from " + s + " to " + t, Nets::busy, x -> x.copy(from, 0, to, 0, 1), Edges.KIND);
                    e.refuses("none", Nets::busy, x -> x.copy(from, 0, to, 0, 0), Edges.KIND);
                } else {
                    e.is("the same", Nets.busy().copy(from, 0, to, 0, 1), 1);
                }
            }
        }
    }

    private void copyBeyondNumbers() {
        e.promise(34, "BEYOND: one has not so many, or from, to or n is below 0");
        int[][] wrong = {
            // from, to and n, of sheet 0 with eight numbers to sheet 1 with three
            {0, 0, 4}, {6, 0, 3}, {8, 0, 1}, {9, 0, 0}, {0, 1, 3}, {0, 3, 1}, {0, 4, 0}, {-1, 0, 1}, {0, -1, 1},
            {0, 0, -1}, {-1, 0, 0}, {0, -1, 0}, {1, 1, -1}, {Edges.MAX, 0, 1}, {0, Edges.MAX, 1}, {0, 0, Edges.MAX},
            {1, 1, Edges.MAX}, {Edges.MAX, Edges.MAX, Edges.MAX}, {Edges.MIN, 0, 1}, {0, Edges.MIN, 1},
            {0, 0, Edges.MIN}, {Edges.MIN, Edges.MIN, Edges.MIN}, {Edges.MAX, 0, Edges.MIN}, {-1, -1, 1}};
        for (int[] w : wrong) {
            String name = "from " + w[0] + " to " + w[1] + ", " + w[2];
            e.refuses(name, SheetEdges::two, x -> x.copy(0, w[0], 1, w[1], w[2]), Edges.BEYOND);
            e.refuses(name + ", the other way", SheetEdges::two, x -> x.copy(1, w[1], 0, w[0], w[2]), Edges.BEYOND);
        }
        e.refuses("over itself, too long", SheetEdges::two, x -> x.copy(0, 0, 0, 1, 8), Edges.BEYOND);
        e.is("just so many", two().copy(0, 5, 1, 0, 3), 3);
        e.is("just so many, to the end", two().copy(1, 0, 0, 5, 3), 3);
    }

    /** So many SLICES, not IN, with so many units WAITING at each, and sheet 0 of 16 bits with numbers. */
    private static SliceSeller waiting(int slices, int units, int... numbers) {
        SliceSeller x = Nets.pair(1, 1);
        for (int i = 0; i < slices; i++) {
            x.slice(0, 0, 1, 1, 1);
            for (int left = units; left > 0; left -= 100) {
                x.offer(i, Math.min(left, 100));
            }
        }
        x.sheet(0, 16, numbers.length);
        for (int i = 0; i < numbers.length; i++) {
            x.write(0, i, numbers[i]);
        }
        return x;
    }

    private void readUnits() {
        e.promise(35, "Number i of a sheet tells how many units more are WAITING at SLICE i (those below 0: none):"
                + " how many units came");
        SliceSeller x = waiting(8, 5, 0, 1, 100, -1, -100, -32768, 7, 99);
        e.is("read", x.read(0), 207);
        int[] due = {5, 6, 105, 5, 5, 5, 12, 104};
        for (int i = 0; i < 8; i++) {
            e.is("WAITING at " + i, x.of(i, 12), due[i]);
        }
        e.is("the sheet stays: again", x.read(0), 207);
        e.is("WAITING at 2", x.of(2, 12), 205);
        e.is("no numbers", waiting(3, 0).read(0), 0);
        e.is("no numbers and no SLICES", waiting(0, 0).read(0), 0);
        SliceSeller y = waiting(3, 0, 1, 2);
        e.is("fewer numbers than SLICES", y.read(0), 3);
        e.is("the last SLICE", y.of(2, 12), 0);
        SliceSeller z = waiting(1, 0);
        z.sheet(1, 8, 1);
        z.write(1, 0, 200);
        e.is("200 in 8 bits is below 0", z.read(1), 0);
        z.write(1, 0, 356);
        e.is("356 in 8 bits is 100", z.read(1), 100);
        z.sheet(3, 32, 1);
        z.write(3, 0, Edges.MIN);
        e.is("the least number of all", z.read(3), 0);
    }

    private void readBeyondSheet() {
        e.promise(35, "BEYOND: no such sheet");
        for (int s : Edges.outside(0, 3)) {
            e.refuses("s " + s, () -> waiting(1, 0, 1), x -> x.read(s), Edges.BEYOND);
        }
    }

    private void readMissing() {
        e.promise(35, "MISSING");
        for (int s = 1; s < 4; s++) {
            int sheet = s;
            e.refuses("s " + s, () -> waiting(1, 0, 1), x -> x.read(sheet), Edges.MISSING);
        }
        e.refuses("in a new object", SliceSeller::new, x -> x.read(0), Edges.MISSING);
    }

    private void readBeyondNumbers() {
        e.promise(35, "BEYOND: it has more numbers than there are SLICES, or one is above 100");
        e.refuses("one number, no SLICES", () -> waiting(0, 0, 0), x -> x.read(0), Edges.BEYOND);
        e.refuses("two numbers, one SLICE", () -> waiting(1, 0, 1, 0), x -> x.read(0), Edges.BEYOND);
        e.refuses("eight numbers, seven SLICES", () -> waiting(7, 0, 1, 1, 1, 1, 1, 1, 1, -1), x -> x.read(0),
                Edges.BEYOND);
        e.is("eight numbers, eight SLICES", waiting(8, 0, 1, 1, 1, 1, 1, 1, 1, 1).read(0), 8);
        e.refuses("the first is 101", () -> waiting(3, 0, 101, 1, 1), x -> x.read(0), Edges.BEYOND);
        e.refuses("the last is 101", () -> waiting(3, 0, 1, 1, 101), x -> x.read(0), Edges.BEYOND);
        e.refuses("one is 32767", () -> waiting(3, 0, 1, 32767, 1), x -> x.read(0), Edges.BEYOND);
        e.is("all are 100", waiting(3, 0, 100, 100, 100).read(0), 300);
        e.refuses("one is the greatest there is", () -> {
            SliceSeller x = waiting(1, 0);
            x.sheet(3, 32, 1);
            x.write(3, 0, Edges.MAX);
            return x;
        }, x -> x.read(3), Edges.BEYOND);
    }

    private void readFull() {
        e.promise(35, "FULL: a SLICE would have more than 1000");
        e.is("just 1000", waiting(2, 900, 100, 100).read(0), 200);
        e.refuses("the first would have 1001", () -> waiting(2, 901, 100, 99), x -> x.read(0), Edges.FULL);
        e.refuses("the last would have 1001", () -> waiting(2, 901, 99, 100), x -> x.read(0), Edges.FULL);
        e.refuses("1000 and one more", () -> waiting(1, 1000, 1), x -> x.read(0), Edges.FULL);
        e.is("1000 and 0", waiting(1, 1000, 0).read(0), 0);
        e.is("1000 and one below 0", waiting(1, 1000, -100).read(0), 0);
        e.is("one that is full and has no number", waiting(2, 1000, 0).read(0), 0);
    }

    private void toldWhat() {
        e.promise(36, "0 NODES, 1 LINES, 2 SLICES, 3 SLICES that are IN, 4 THE TICK, 5 how many acts answered a finding ever"
                + " (this one, too, if it does), 6 units that passed ever, 7 what they PAID together");
        SliceSeller x = new SliceSeller();
        int[] none = {0, 0, 0, 0, 0, 0, 0, 0};
        for (int what = 0; what < 8; what++) {
            e.is("of a new object, told(" + what + ")", x.told(what), none[what]);
        }
        SliceSeller y = Nets.full();
        y.out(7);
        y.run(23);
        int[] all = {6, 9, 8, y.told(3), 23};
        for (int what = 0; what < 5; what++) {
            e.is("told(" + what + ")", y.told(what), all[what]);
        }
        int in = 0;
        int passed = 0;
        int paid = 0;
        for (int i = 0; i < 8; i++) {
            in += y.of(i, 11);
            passed += y.of(i, 13);
            paid += y.of(i, 15);
        }
        e.is("SLICES that are IN", y.told(3), in);
        e.is("units that passed", y.told(6), passed);
        e.is("what they PAID", y.told(7), paid);
        e.holds("some did", passed > 0 && paid > 0);
        dueFindingsCounted();
    }

    private void dueFindingsCounted() {
        SliceSeller x = Nets.pair(1, 1);
        x.slice(0, 0, 1, 1, 1);
        Edges.Call[] refused = {y -> y.node(-1), y -> y.line(0, 0, 1, 1, 1), y -> y.up(-1, true), y -> y.ways(0, 0),
            y -> y.way(0, 1, 9, 0), y -> y.flow(0, 0, 0), y -> y.cut(0, 0, 0), y -> y.slice(5, 0, 1, 1, 1),
            y -> y.terms(1, 0, 0, 0), y -> y.span(1, 0, 0, 0), y -> y.as(0, 1), y -> y.of(0, 18), y -> y.places(1),
            y -> y.letIn(1), y -> y.why(1), y -> y.out(0), y -> y.wayOf(0, false, 0), y -> y.host(0),
            y -> y.load(1, 0), y -> y.fallRoom(1, 0), y -> y.work(2, 0), y -> y.spare(1), y -> y.took(1),
            y -> y.lay(2), y -> y.can(2), y -> y.offer(0, 0), y -> y.run(0), y -> y.about(0, 9),
            y -> y.sheet(0, 8, -1), y -> y.write(0, 0, 0), y -> y.copy(0, 0, 0, 0, 0), y -> y.read(0), y -> y.told(8)};
        for (int i = 0; i < refused.length; i++) {
            e.holds("call " + i + " is refused", refused[i].on(x) < -1000000);
            e.is("told(5)", x.told(5), i + 1);
        }
        e.is("asked again", x.told(5), refused.length);
        e.is("this one, too", x.told(8), Edges.BEYOND);
        e.is("told(5)", x.told(5), refused.length + 1);
    }

    private void toldBeyond() {
        e.promise(36, "BEYOND: another what");
        e.within("what", Nets::busy, 0, 7, SliceSeller::told);
        e.within("what in a new object", SliceSeller::new, 0, 7, SliceSeller::told);
    }
}
