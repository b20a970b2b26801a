/** Promises 32 to 36: sheets, and what is told. */
public final class SheetsTest {
    private static final int BEYOND = -1000001;
    private static final int FULL = -1000002;
    private static final int KIND = -1000004;
    private static final int MISSING = -1000007;
    private static final int SIZE = -1000008;
    private static final int MIN = Integer.MIN_VALUE;
    private static final int MAX = Integer.MAX_VALUE;

    private static final Due DUE = new Due("SheetsTest");

    public static void main(String[] args) {
        promise32Sheet();
        promise32Missing();
        promise33Write();
        promise34Copy();
        promise34CopyOverItself();
        promise34CopyEdges();
        promise35Read();
        promise35ReadAllOrNone();
        promise36Told();
        DUE.end();
    }

    private static void promise32Sheet() {
        SliceSeller x = new SliceSeller();
        int[] bits = {8, 16, 32};
        for (int s = 0; s < 4; s++) {
            DUE.is("32: sheet", x.sheet(s, bits[s % 3], 2 * s), 2 * s);
        }
        DUE.is("32: eight numbers", x.sheet(3, 8, 8), 8);
        DUE.is("32: sheet(-1)", x.sheet(-1, 8, 1), BEYOND);
        DUE.is("32: sheet(4)", x.sheet(4, 8, 1), BEYOND);
        int[] wrong = {-8, -1, 1, 4, 7, 9, 15, 17, 24, 31, 33, 64, MIN, MAX};
        for (int w : wrong) {
            DUE.is("32: bits " + w, x.sheet(0, w, 1), BEYOND);
        }
        DUE.is("32: n -1", x.sheet(0, 8, -1), SIZE);
        DUE.is("32: n min", x.sheet(0, 8, MIN), SIZE);
        DUE.is("32: n 9", x.sheet(0, 8, 9), BEYOND);
        DUE.is("32: n max", x.sheet(0, 8, MAX), BEYOND);
        DUE.is("32: BEYOND of bits comes ahead of SIZE", x.sheet(0, 9, -1), BEYOND);
        DUE.is("32: BEYOND of the sheet comes ahead of SIZE", x.sheet(4, 8, -1), BEYOND);
        DUE.is("32: nothing changed", x.write(3, 7, 5), 0);
        DUE.is("32: all 0 again", x.sheet(3, 8, 8), 8);
        DUE.is("32: all 0 again", x.write(3, 7, 6), 0);
        DUE.is("32: shorter", x.sheet(3, 16, 7), 7);
        DUE.is("32: number 7 is gone", x.write(3, 7, 5), BEYOND);
        DUE.is("32: longer", x.sheet(3, 16, 8), 8);
        DUE.is("32: number 7 is 0", x.write(3, 7, 5), 0);
        x.write(3, 0, 5);
        x.sheet(3, 16, 1);
        DUE.is("32: number 0 is 0", x.write(3, 0, 5), 0);
    }

    private static void promise32Missing() {
        SliceSeller x = new SliceSeller();
        x.sheet(0, 8, 3);
        x.write(0, 0, 1);
        DUE.is("32: bits 0, n 0", x.sheet(0, 0, 0), 0);
        DUE.is("32: it is MISSING", x.write(0, 0, 1), MISSING);
        x.sheet(0, 8, 3);
        DUE.is("32: bits 0, n 3", x.sheet(0, 0, 3), 0);
        DUE.is("32: it is MISSING", x.read(0), MISSING);
        DUE.is("32: bits 0, n -1", x.sheet(0, 0, -1), SIZE);
        DUE.is("32: bits 0, n 9", x.sheet(0, 0, 9), BEYOND);
        DUE.is("32: a sheet without numbers", x.sheet(0, 32, 0), 0);
        DUE.is("32: is not MISSING", x.write(0, 0, 1), BEYOND);
    }

    private static void promise33Write() {
        SliceSeller x = new SliceSeller();
        DUE.is("33: MISSING", x.write(0, 0, 0), MISSING);
        DUE.is("33: MISSING comes ahead of the number", x.write(0, 9, 0), MISSING);
        DUE.is("33: write(-1)", x.write(-1, 0, 0), BEYOND);
        DUE.is("33: write(4)", x.write(4, 0, 0), BEYOND);
        int[] bits = {8, 16, 32};
        int[] values = {1, -1, 127, 128, 255, 256, 32767, 32768, 65535, 65536, 123456789, MAX, MIN, -129, -32769, 0};
        for (int s = 0; s < 3; s++) {
            x.sheet(s, bits[s], 3);
            int was = 0;
            for (int v : values) {
                DUE.is("33: what it was, of " + bits[s] + " bits", x.write(s, 1, v), was);
                was = s == 0 ? (byte) v : s == 1 ? (short) v : v;
            }
            DUE.is("33: the others", x.write(s, 0, 0), 0);
            DUE.is("33: the others", x.write(s, 2, 0), 0);
            DUE.is("33: no such number", x.write(s, 3, 0), BEYOND);
            DUE.is("33: no such number", x.write(s, -1, 0), BEYOND);
            DUE.is("33: no such number", x.write(s, MAX, 0), BEYOND);
        }
        // What a number was is no finding, even if it looks like one.
        int before = x.told(5);
        x.write(2, 0, BEYOND);
        DUE.is("33: it was -1000001", x.write(2, 0, 0), BEYOND);
        DUE.is("33: that is no finding", x.told(5), before);
    }

    private static void fill(SliceSeller x, int s, int n, int from) {
        for (int i = 0; i < n; i++) {
            x.write(s, i, from + i);
        }
    }

    private static void dueRow(SliceSeller x, int s, int... want) {
        for (int i = 0; i < want.length; i++) {
            DUE.is("34: number " + i + " of sheet " + s, x.write(s, i, want[i]), want[i]);
        }
    }

    private static void promise34Copy() {
        SliceSeller x = new SliceSeller();
        x.sheet(0, 16, 5);
        x.sheet(1, 16, 3);
        fill(x, 0, 5, 10);
        fill(x, 1, 3, 20);
        DUE.is("34: copy", x.copy(0, 3, 1, 0, 2), 2);
        dueRow(x, 1, 13, 14, 22);
        dueRow(x, 0, 10, 11, 12, 13, 14);
        DUE.is("34: all", x.copy(1, 0, 0, 2, 3), 3);
        dueRow(x, 0, 10, 11, 13, 14, 22);
        DUE.is("34: none", x.copy(0, 5, 1, 3, 0), 0);
        dueRow(x, 1, 13, 14, 22);
    }

    private static void promise34CopyOverItself() {
        SliceSeller x = new SliceSeller();
        x.sheet(0, 8, 6);
        fill(x, 0, 6, 1);
        DUE.is("34: up", x.copy(0, 0, 0, 2, 4), 4);
        dueRow(x, 0, 1, 2, 1, 2, 3, 4);
        fill(x, 0, 6, 1);
        DUE.is("34: down", x.copy(0, 2, 0, 0, 4), 4);
        dueRow(x, 0, 3, 4, 5, 6, 5, 6);
    }

    private static void promise34CopyEdges() {
        SliceSeller x = new SliceSeller();
        x.sheet(0, 8, 4);
        x.sheet(1, 8, 2);
        x.sheet(2, 16, 4);
        fill(x, 0, 4, 1);
        int[][] wrong = {{-1, 0, 0, 0, 1, BEYOND}, {0, 0, 4, 0, 1, BEYOND}, {4, 0, -1, 0, 1, BEYOND},
            {3, 0, 0, 0, 1, MISSING}, {0, 0, 3, 0, 1, MISSING}, {3, -1, 3, 0, 0, MISSING},
            {0, 0, 2, 0, 1, KIND}, {2, 9, 0, 0, 1, KIND}, {0, 0, 1, 0, 3, BEYOND}, {1, 0, 0, 0, 3, BEYOND},
            {0, 3, 1, 0, 2, BEYOND}, {0, 0, 1, 1, 2, BEYOND}, {0, -1, 1, 0, 1, BEYOND}, {0, 0, 1, -1, 1, BEYOND},
            {0, 0, 1, 0, -1, BEYOND}, {0, 1, 1, 0, MAX, BEYOND}, {0, MAX, 1, 0, 1, BEYOND},
            {0, 0, 1, MAX, MAX, BEYOND}, {0, MAX, 1, MAX, 0, BEYOND}, {0, 5, 1, 0, 0, BEYOND},
            {0, 0, 1, 3, 0, BEYOND}, {0, MIN, 1, MIN, MIN, BEYOND}};
        for (int[] w : wrong) {
            DUE.is("34: wrong " + java.util.Arrays.toString(w), x.copy(w[0], w[1], w[2], w[3], w[4]), w[5]);
        }
        DUE.is("34: told(5)", x.told(5), wrong.length);
        dueRow(x, 0, 1, 2, 3, 4);
        dueRow(x, 1, 0, 0);
    }

    private static SliceSeller slices(int n) {
        SliceSeller x = new SliceSeller();
        x.node(0);
        x.node(0);
        for (int i = 0; i < n; i++) {
            x.slice(0, 0, 1, 1, 1);
        }
        return x;
    }

    private static void promise35Read() {
        SliceSeller x = slices(3);
        DUE.is("35: read(-1)", x.read(-1), BEYOND);
        DUE.is("35: read(4)", x.read(4), BEYOND);
        DUE.is("35: MISSING", x.read(1), MISSING);
        x.sheet(0, 8, 3);
        fill(x, 0, 3, 98);
        DUE.is("35: 98, 99, 100", x.read(0), 297);
        DUE.is("35: WAITING", x.of(0, 12), 98);
        DUE.is("35: WAITING", x.of(1, 12), 99);
        DUE.is("35: WAITING", x.of(2, 12), 100);
        x.write(0, 0, -128);
        x.write(0, 1, 0);
        DUE.is("35: those below 0: none", x.read(0), 100);
        DUE.is("35: WAITING", x.of(0, 12), 98);
        DUE.is("35: WAITING", x.of(2, 12), 200);
        x.sheet(1, 32, 2);
        x.write(1, 0, 7);
        DUE.is("35: fewer numbers than SLICES", x.read(1), 7);
        x.sheet(1, 32, 4);
        DUE.is("35: more numbers than SLICES", x.read(1), BEYOND);
        x.sheet(1, 32, 0);
        DUE.is("35: no numbers", x.read(1), 0);
        DUE.is("35: no SLICES", slices(0).read(0), MISSING);
    }

    private static void promise35ReadAllOrNone() {
        SliceSeller x = slices(3);
        x.sheet(0, 16, 3);
        fill(x, 0, 3, 99);
        DUE.is("35: one is 101", x.read(0), BEYOND);
        DUE.is("35: none came", x.of(0, 12), 0);
        fill(x, 0, 3, 98);
        for (int i = 0; i < 10; i++) {
            DUE.is("35: ten times", x.read(0), 297);
        }
        DUE.is("35: WAITING", x.of(2, 12), 1000);
        DUE.is("35: FULL", x.read(0), FULL);
        DUE.is("35: none came", x.of(0, 12), 980);
        x.write(0, 1, 101);
        DUE.is("35: BEYOND comes ahead of FULL", x.read(0), BEYOND);
        x.write(0, 0, 20);
        x.write(0, 1, 10);
        x.write(0, 2, -5);
        DUE.is("35: just 1000", x.read(0), 30);
        DUE.is("35: WAITING", x.of(0, 12), 1000);
        DUE.is("35: WAITING", x.of(1, 12), 1000);
        x.write(0, 0, 0);
        x.write(0, 1, -1);
        x.write(0, 2, 0);
        DUE.is("35: none more", x.read(0), 0);
        x.write(0, 0, 1);
        DUE.is("35: SLICE 0 would have 1001", x.read(0), FULL);
        x.write(0, 0, 101);
        DUE.is("35: number 0 is 101", x.read(0), BEYOND);
        x.write(0, 0, 0);
        x.write(0, 2, 1);
        DUE.is("35: one more", x.read(0), FULL);
    }

    private static void promise36Told() {
        SliceSeller x = new SliceSeller();
        for (int i = 0; i < 5; i++) {
            x.node(9);
        }
        for (int i = 0; i < 4; i++) {
            x.line(0, 1, 10, 1, 3);
        }
        for (int i = 0; i < 3; i++) {
            x.slice(0, 0, 1, 5, 1);
        }
        x.letIn(0);
        x.letIn(2);
        x.offer(2, 9);
        x.run(6);
        int[] due = {5, 4, 3, 2, 6, 0, 9, 27};
        for (int what = 0; what < 8; what++) {
            DUE.is("36: told(" + what + ")", x.told(what), due[what]);
        }
        DUE.is("36: told(8)", x.told(8), BEYOND);
        DUE.is("36: this one, too", x.told(5), 1);
        DUE.is("36: told(-1)", x.told(-1), BEYOND);
        DUE.is("36: told(min)", x.told(MIN), BEYOND);
        DUE.is("36: told(5)", x.told(5), 3);
        x.ways(0, 0);
        x.way(0, 1, 99, 0);
        x.flow(0, 0, 0);
        x.out(1);
        x.as(0, 4);
        x.read(0);
        x.lay(8);
        DUE.is("36: every act's findings", x.told(5), 10);
        x.way(0, 1, 0, 99);
        x.wayOf(0, false, 99);
        DUE.is("36: -1 is none", x.told(5), 10);
    }
}
