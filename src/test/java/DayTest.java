/** Promises 29 to 31: the day. */
public final class DayTest {
    private static final int BEYOND = -1000001;
    private static final int FULL = -1000002;
    private static final int MIN = Integer.MIN_VALUE;
    private static final int MAX = Integer.MAX_VALUE;

    private static final Due DUE = new Due("DayTest");

    public static void main(String[] args) {
        promise29Offer();
        promise30Need();
        promise30WhatIsLeft();
        promise30Counts();
        promise30Falls();
        promise30LentByTurns();
        promise30LentGoesOnWhereItWas();
        promise30LentAsRoomAndRateLet();
        promise30TheTick();
        promise30Edges();
        promise31About();
        accountsAgree();
        DUE.end();
    }

    private static SliceSeller pair(int lines, int room) {
        SliceSeller x = new SliceSeller();
        x.node(100);
        x.node(100);
        for (int i = 0; i < lines; i++) {
            x.line(0, 1, room, 1 + i, 2 + i);
        }
        return x;
    }

    private static void promise29Offer() {
        SliceSeller x = pair(1, 10);
        DUE.is("29: no such SLICE", x.offer(0, 1), BEYOND);
        x.slice(0, 0, 1, 1, 1);
        x.slice(0, 0, 1, 1, 1);
        DUE.is("29: offer(0, 0)", x.offer(0, 0), BEYOND);
        DUE.is("29: offer(0, 101)", x.offer(0, 101), BEYOND);
        DUE.is("29: offer(0, -5)", x.offer(0, -5), BEYOND);
        DUE.is("29: offer(0, min)", x.offer(0, MIN), BEYOND);
        DUE.is("29: offer(0, max)", x.offer(0, MAX), BEYOND);
        DUE.is("29: offer(-1, 1)", x.offer(-1, 1), BEYOND);
        DUE.is("29: offer(2, 1)", x.offer(2, 1), BEYOND);
        DUE.is("29: one", x.offer(0, 1), 1);
        for (int i = 1; i <= 9; i++) {
            DUE.is("29: a hundred more", x.offer(0, 100), 1 + 100 * i);
        }
        DUE.is("29: it would be 1001", x.offer(0, 100), FULL);
        DUE.is("29: it is 901 still", x.of(0, 12), 901);
        DUE.is("29: 1000", x.offer(0, 99), 1000);
        DUE.is("29: one more", x.offer(0, 1), FULL);
        DUE.is("29: BEYOND comes ahead of FULL", x.offer(0, 0), BEYOND);
        DUE.is("29: the other one", x.of(1, 12), 0);
    }

    private static void promise30Need() {
        SliceSeller x = pair(1, 50);
        x.slice(0, 0, 1, 6, 1);
        x.slice(1, 0, 1, 6, 1);
        x.slice(0, 0, 1, 6, 1);
        x.letIn(0);
        x.offer(0, 15);
        x.offer(1, 15);
        x.offer(2, 15);
        DUE.is("30: NEED of the one that is IN", x.run(1), 6);
        DUE.is("30: of(0, 16)", x.of(0, 16), 6);
        DUE.is("30: of(0, 12)", x.of(0, 12), 9);
        DUE.is("30: one that is not IN", x.of(2, 13), 0);
        DUE.is("30: what is WAITING", x.run(2), 9);
        DUE.is("30: of(0, 16)", x.of(0, 16), 3);
        DUE.is("30: of(0, 13)", x.of(0, 13), 15);
        DUE.is("30: of(0, 14)", x.of(0, 14), 0);
        DUE.is("30: of(0, 15)", x.of(0, 15), 30);
        DUE.is("30: none WAITING", x.run(24), 0);
        DUE.is("30: of(0, 16)", x.of(0, 16), 0);
        DUE.is("30: told(6)", x.told(6), 15);
        DUE.is("30: told(7)", x.told(7), 30);
    }

    private static void promise30WhatIsLeft() {
        // SURE SLICES 0 and 1 on LINES 0 and 1, both with LINE 2 as SPARE; when both fall, LINE 2 is short.
        SliceSeller x = pair(3, 10);
        x.slice(1, 0, 1, 7, 3);
        x.slice(1, 0, 1, 8, 3);
        x.up(1, false);
        x.letIn(0);
        x.up(1, true);
        x.letIn(1);
        x.offer(0, 100);
        x.offer(1, 100);
        DUE.is("30: both", x.run(1), 15);
        x.up(0, false);
        DUE.is("30: one fell", x.run(1), 15);
        DUE.is("30: over the SPARE", x.about(2, 7), 7);
        x.up(1, false);
        DUE.is("30: both fell", x.run(1), 10);
        DUE.is("30: by numbers", x.of(0, 16), 7);
        DUE.is("30: what is LEFT", x.of(1, 16), 3);
        DUE.is("30: LINE 2", x.about(2, 7), 10);
        DUE.is("30: PAID by the SPARE's PRICE", x.of(1, 15), 8 * 3 + 8 * 3 + 3 * 4);
    }

    private static void promise30Counts() {
        SliceSeller x = pair(1, 50);
        x.slice(4, 0, 1, 5, 1);
        x.span(0, 1, 13, 1 | 2);
        x.letIn(0);
        x.slice(2, 0, 1, 9, 1);
        x.terms(1, 2, 0, 0);
        x.span(1, 3, 3, 0);
        x.letIn(1);
        x.offer(0, 100);
        x.offer(1, 100);
        int[] due = {0, 5, 0, 9, 0, 0, 5, 5, 0, 0, 0, 0, 5, 5, 0, 0, 0, 0, 0, 0, 0, 0, 0, 0};
        for (int t = 0; t < 24; t++) {
            DUE.is("30: told(4)", x.told(4), t);
            DUE.is("30: at TICK " + t, x.run(1), due[t]);
        }
        DUE.is("30: told(4)", x.told(4), 0);
        DUE.is("30: the next day", x.run(24), 34);
    }

    private static void promise30Falls() {
        SliceSeller x = pair(2, 10);
        x.slice(1, 0, 1, 4, 2);
        x.slice(2, 0, 1, 9, 1);
        x.letIn(0);
        x.letIn(1);
        x.offer(0, 100);
        x.offer(1, 100);
        DUE.is("30: 4, and 6 LENT", x.run(1), 10);
        x.up(0, false);
        DUE.is("30: the SPARE, and no TAKEN WAY", x.run(1), 4);
        DUE.is("30: of(1, 16)", x.of(1, 16), 0);
        DUE.is("30: about(1, 7)", x.about(1, 7), 4);
        x.up(1, false);
        DUE.is("30: none", x.run(1), 0);
        DUE.is("30: about(1, 7)", x.about(1, 7), 0);
        x.up(0, true);
        DUE.is("30: the WAY again", x.run(1), 10);
        DUE.is("30: of(0, 15)", x.of(0, 15), 4 * 2 + 4 * 3 + 4 * 2);
        x.out(0);
        DUE.is("30: out", x.run(1), 9);
        DUE.is("30: of(0, 16)", x.of(0, 16), 0);
    }

    private static void promise30LentByTurns() {
        SliceSeller x = pair(1, 11);
        x.slice(2, 0, 1, 20, 1);
        x.terms(0, 3, 0, 0);
        x.slice(0, 0, 1, 2, 1);
        x.slice(3, 0, 1, 20, 1);
        x.slice(2, 0, 1, 20, 1);
        for (int i = 0; i < 4; i++) {
            x.letIn(i);
            x.offer(i, 100);
        }
        DUE.is("30: all room", x.run(1), 11);
        // 3 and 2 by NEED; six by turns to 0, 2, 3, 0, 2, 3.
        int[] passed = {5, 2, 2, 2};
        int[] lent = {2, 0, 2, 2};
        for (int i = 0; i < 4; i++) {
            DUE.is("30: of(" + i + ", 16)", x.of(i, 16), passed[i]);
            DUE.is("30: of(" + i + ", 14)", x.of(i, 14), lent[i]);
        }
        x.out(1);
        DUE.is("30: two more to lend", x.run(1), 11);
        // From 0 on again: 0, 2, 3, 0, 2, 3, 0, 2.
        int[] more = {6, 0, 3, 2};
        for (int i = 0; i < 4; i++) {
            DUE.is("30: of(" + i + ", 16)", x.of(i, 16), more[i]);
        }
        DUE.is("30: and once more", x.run(1), 11);
        // From 3 on: 3, 0, 2, 3, 0, 2, 3, 0.
        int[] then = {6, 0, 2, 3};
        for (int i = 0; i < 4; i++) {
            DUE.is("30: of(" + i + ", 16)", x.of(i, 16), then[i]);
        }
    }

    private static void promise30LentGoesOnWhereItWas() {
        SliceSeller x = pair(1, 1);
        for (int i = 0; i < 3; i++) {
            x.slice(3, 0, 1, 5, 1);
            x.letIn(i);
            x.offer(i, 10);
        }
        int[] turns = {0, 1, 2, 0, 1};
        for (int t = 0; t < 5; t++) {
            x.run(1);
            DUE.is("30: the turn of " + turns[t], x.of(turns[t], 16), 1);
        }
        // None is LENT while the LINE is DOWN, and the turn stays.
        x.up(0, false);
        DUE.is("30: DOWN", x.run(3), 0);
        x.up(0, true);
        x.run(1);
        DUE.is("30: the turn of 2", x.of(2, 16), 1);
        // A new SLICE stands behind the last one to which a unit was LENT.
        x.slice(3, 0, 1, 5, 1);
        x.letIn(3);
        x.offer(3, 10);
        x.run(1);
        DUE.is("30: the turn of 3", x.of(3, 16), 1);
        x.run(1);
        DUE.is("30: the turn of 0", x.of(0, 16), 1);
        // One that can take none is passed over.
        x.out(1);
        x.run(1);
        DUE.is("30: the turn of 2", x.of(2, 16), 1);
    }

    private static void promise30LentAsRoomAndRateLet() {
        SliceSeller x = new SliceSeller();
        for (int i = 0; i < 3; i++) {
            x.node(100);
        }
        x.line(0, 1, 10, 1, 1);
        x.line(1, 2, 4, 1, 5);
        x.slice(2, 0, 2, 20, 9);
        x.slice(3, 0, 1, 5, 9);
        x.slice(3, 0, 1, 20, 9);
        for (int i = 0; i < 3; i++) {
            x.letIn(i);
        }
        x.offer(0, 100);
        x.offer(1, 100);
        x.offer(2, 2);
        // By turns 0 1 2 0 1 2 0 1 0 1: then 0 has no LINE left, nor LINE 0 any room.
        DUE.is("30: run(1)", x.run(1), 10);
        DUE.is("30: LINE 1 lets four", x.of(0, 16), 4);
        DUE.is("30: of(1, 16)", x.of(1, 16), 4);
        DUE.is("30: what is WAITING", x.of(2, 16), 2);
        DUE.is("30: next", x.run(1), 9);
        DUE.is("30: of(0, 16)", x.of(0, 16), 4);
        DUE.is("30: its RATE", x.of(1, 16), 5);
        DUE.is("30: PAID", x.of(0, 15), 8 * 6);
        DUE.is("30: EARNED", x.about(1, 8), 8 * 5);
        // A SURE one, a plain one and a TIMED one borrow nothing.
        SliceSeller y = pair(2, 50);
        int[] kinds = {0, 1, 4};
        for (int i = 0; i < 3; i++) {
            y.slice(kinds[i], 0, 1, 1, 2);
            y.span(i, 0, 23, 63);
            y.letIn(i);
            y.offer(i, 50);
        }
        DUE.is("30: their NEEDS alone", y.run(1), 3);
    }

    private static void promise30TheTick() {
        SliceSeller x = pair(1, 1);
        DUE.is("30: told(4)", x.told(4), 0);
        x.run(23);
        DUE.is("30: told(4)", x.told(4), 23);
        x.run(1);
        DUE.is("30: told(4)", x.told(4), 0);
        x.run(24);
        DUE.is("30: told(4)", x.told(4), 0);
        x.run(7);
        x.run(20);
        DUE.is("30: told(4)", x.told(4), 3);
    }

    private static void promise30Edges() {
        SliceSeller x = pair(1, 1);
        DUE.is("30: run(0)", x.run(0), BEYOND);
        DUE.is("30: run(25)", x.run(25), BEYOND);
        DUE.is("30: run(-1)", x.run(-1), BEYOND);
        DUE.is("30: run(max)", x.run(MAX), BEYOND);
        DUE.is("30: told(4)", x.told(4), 0);
        DUE.is("30: told(5)", x.told(5), 4);
        DUE.is("30: run(1)", x.run(1), 0);
    }

    private static void promise31About() {
        SliceSeller x = new SliceSeller();
        DUE.is("31: no LINE", x.about(0, 0), BEYOND);
        for (int i = 0; i < 3; i++) {
            x.node(100);
        }
        x.line(2, 1, 13, 4, 7);
        x.line(0, 2, 9, 1, 0);
        x.slice(0, 0, 1, 5, 9);
        x.letIn(0);
        x.offer(0, 12);
        int[] first = {2, 1, 13, 4, 7, 1, 0, 0, 0};
        for (int what = 0; what < 9; what++) {
            DUE.is("31: about(0, " + what + ")", x.about(0, what), first[what]);
        }
        x.run(2);
        x.up(0, false);
        int[] then = {2, 1, 13, 4, 7, 0, 10, 5, 70};
        for (int what = 0; what < 9; what++) {
            DUE.is("31: about(0, " + what + ")", x.about(0, what), then[what]);
        }
        x.up(0, true);
        x.run(1);
        int[] last = {0, 2, 9, 1, 0, 1, 12, 2, 0};
        for (int what = 0; what < 9; what++) {
            DUE.is("31: about(1, " + what + ")", x.about(1, what), last[what]);
        }
        DUE.is("31: what 9", x.about(0, 9), BEYOND);
        DUE.is("31: what -1", x.about(0, -1), BEYOND);
        DUE.is("31: line 2", x.about(2, 0), BEYOND);
        DUE.is("31: line -1", x.about(-1, 0), BEYOND);
    }

    private static void accountsAgree() {
        SliceSeller x = pair(3, 9);
        for (int i = 0; i < 8; i++) {
            x.slice(i % 5, i % 2, 1 - i % 2, 1 + i, 3);
            x.terms(i, i % 2, 0, 0);
            x.span(i, i, 20, 42);
            x.letIn(i);
            x.offer(i, 40);
        }
        int passed = 0;
        for (int t = 0; t < 40; t++) {
            x.up(t % 3, t % 5 < 3);
            passed += x.run(1);
        }
        int bySlice = 0;
        int paid = 0;
        for (int i = 0; i < 8; i++) {
            bySlice += x.of(i, 13);
            paid += x.of(i, 15);
            DUE.is("13: passed and WAITING", x.of(i, 12) + x.of(i, 13), 40);
        }
        int byLine = 0;
        int earned = 0;
        for (int l = 0; l < 3; l++) {
            byLine += x.about(l, 6);
            earned += x.about(l, 8);
        }
        DUE.holds("30: some passed", passed > 0);
        DUE.is("13: by SLICE", bySlice, passed);
        DUE.is("31: by LINE, WAYS being of one LINE", byLine, passed);
        DUE.is("36: told(6)", x.told(6), passed);
        DUE.is("36: told(7)", x.told(7), paid);
        DUE.is("31: EARNED", earned, paid);
    }
}
