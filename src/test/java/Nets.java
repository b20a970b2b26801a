/** Nets that tests begin with; each makes a new object by the same calls. */
final class Nets {
    private Nets() { }

    static SliceSeller nodes(int n, int work) {
        SliceSeller x = new SliceSeller();
        for (int i = 0; i < n; i++) {
            x.node(work);
        }
        return x;
    }

    /** Two NODES of WORKROOM 100; LINE i has LATE 1 + i and PRICE i. */
    static SliceSeller pair(int lines, int room) {
        SliceSeller x = nodes(2, 100);
        for (int i = 0; i < lines; i++) {
            x.line(0, 1, room, 1 + i, i);
        }
        return x;
    }

    /** NODES 0, 1, .. in a row, LINE i from NODE i to the next one. */
    static SliceSeller chain(int nodes, int room, int late) {
        SliceSeller x = nodes(nodes, 100);
        for (int i = 0; i + 1 < nodes; i++) {
            x.line(i, i + 1, room, late, 1);
        }
        return x;
    }

    /** 0-1 by LINE 0, 1-2 by LINE 1, 0-2 by LINE 2, all of LATE 1. */
    static SliceSeller triangle(int room) {
        SliceSeller x = nodes(3, 100);
        x.line(0, 1, room, 1, 1);
        x.line(1, 2, room, 1, 2);
        x.line(0, 2, room, 1, 4);
        return x;
    }

    /** Something of everything: all kinds, IN and not, units that wait and that passed, a LINE that is DOWN. */
    static SliceSeller busy() {
        SliceSeller x = new SliceSeller();
        int[] works = {30, 20, 10, 40};
        for (int work : works) {
            x.node(work);
        }
        int[][] lines = {{0, 1, 12, 2, 1}, {1, 2, 10, 1, 2}, {2, 3, 9, 1, 3}, {3, 0, 8, 3, 4}, {0, 2, 7, 2, 5},
            {1, 3, 6, 2, 0}};
        for (int[] l : lines) {
            x.line(l[0], l[1], l[2], l[3], l[4]);
        }
        int[][] slices = {{0, 0, 2, 3, 9}, {1, 0, 2, 2, 9}, {2, 1, 3, 6, 9}, {3, 3, 1, 5, 9}, {4, 2, 0, 4, 9},
            {1, 3, 1, 1, 9}};
        int[][] terms = {{0, 5, 100}, {0, 3, 200}, {1, 2, 50}, {2, 0, 10}, {0, 4, 70}, {0, 1, 5}};
        int[][] spans = {{0, 23, 0}, {0, 12, 3}, {1, 20, 0}, {0, 23, 1}, {2, 22, 13}, {5, 5, 0}};
        for (int i = 0; i < slices.length; i++) {
            x.slice(slices[i][0], slices[i][1], slices[i][2], slices[i][3], slices[i][4]);
            x.terms(i, terms[i][0], terms[i][1], terms[i][2]);
            x.span(i, spans[i][0], spans[i][1], spans[i][2]);
            x.offer(i, 40);
        }
        for (int i = 0; i < 5; i++) {
            x.letIn(i);
        }
        x.run(3);
        x.up(5, false);
        x.sheet(0, 8, 3);
        x.write(0, 0, 5);
        x.write(0, 1, -3);
        x.sheet(1, 16, 6);
        x.sheet(2, 32, 6);
        x.write(2, 5, 1000000);
        x.can(3);
        return x;
    }

    /** All NODES, LINES and SLICES that there can be, SLICE 0 with all units that may wait. */
    static SliceSeller full() {
        SliceSeller x = nodes(6, 50);
        for (int i = 0; i < 9; i++) {
            x.line(i % 6, (i + 1 + i / 6) % 6, 10 + i, 1 + i % 3, i);
        }
        for (int i = 0; i < 8; i++) {
            x.slice(i % 5, i % 6, (i + 2) % 6, 2 + i, 9);
            x.letIn(i);
        }
        for (int i = 0; i < 10; i++) {
            x.offer(0, 100);
        }
        return x;
    }
}
