import java.util.ArrayList;
import java.util.List;

/**
 * Looks at all of an object that calls can tell, but told(5) and tries(). One look would take more
 * than 512 calls, so it is parted; each part needs an object of its own.
 */
final class Probe {
    static final int COUNT = 7;

    private Probe() { }

    static List<Integer> see(SliceSeller x, int part) {
        List<Integer> seen = new ArrayList<>();
        switch (part) {
            case 0 -> seeSlices(x, seen);
            case 1 -> seeLines(x, seen);
            case 2 -> seeLoads(x, seen);
            case 3 -> seeFallRooms(x, seen);
            case 4 -> seeSheets(x, seen);
            case 5 -> seeTheDay(x, seen);
            default -> seeLayings(x, seen);
        }
        return seen;
    }

    private static void seeSlices(SliceSeller x, List<Integer> seen) {
        int slices = x.told(2);
        for (int s = 0; s < slices; s++) {
            for (int what = 0; what < 18; what++) {
                seen.add(x.of(s, what));
            }
            for (int i = 0; i < 6; i++) {
                seen.add(x.wayOf(s, false, i));
                seen.add(x.wayOf(s, true, i));
            }
            seen.add(x.host(s));
            seen.add(x.places(s));
        }
    }

    private static void seeLines(SliceSeller x, List<Integer> seen) {
        for (int what : new int[] {0, 1, 2, 3, 4, 6, 7}) {
            seen.add(x.told(what));
        }
        int lines = x.told(1);
        int nodes = x.told(0);
        for (int l = -1; l < lines; l++) {
            for (int what = 0; what < 9; what++) {
                seen.add(x.about(l, what));
            }
            seen.add(x.spare(l));
            seen.add(x.took(l));
        }
        for (int a = 0; a < nodes; a++) {
            for (int b = 0; b < nodes; b++) {
                seen.add(x.ways(a, b));
                seen.add(x.way(a, b, 0, -1));
                seen.add(x.flow(a, b, 12));
                seen.add(x.cut(a, b, 3));
            }
        }
    }

    private static void seeLoads(SliceSeller x, List<Integer> seen) {
        int lines = x.told(1);
        for (int t = 0; t < 24; t++) {
            for (int l = 0; l < lines; l++) {
                seen.add(x.load(l, t));
            }
        }
    }

    private static void seeFallRooms(SliceSeller x, List<Integer> seen) {
        int lines = x.told(1);
        for (int t = 0; t < 24; t++) {
            for (int l = 0; l < lines; l++) {
                seen.add(x.fallRoom(l, t));
            }
        }
    }

    private static void seeSheets(SliceSeller x, List<Integer> seen) {
        for (int s = 0; s < 4; s++) {
            for (int i = 0; i <= 8; i++) {
                // The second answer tells of how many bits the numbers are.
                seen.add(x.write(s, i, 0x12348765));
                seen.add(x.write(s, i, 0));
            }
        }
        int nodes = x.told(0);
        for (int t = 0; t < 24; t++) {
            for (int n = 0; n < nodes; n++) {
                seen.add(x.work(n, t));
            }
        }
    }

    private static void seeTheDay(SliceSeller x, List<Integer> seen) {
        int slices = x.told(2);
        for (int t = 0; t < 24; t++) {
            seen.add(x.run(1));
            for (int s = 0; s < slices; s++) {
                seen.add(x.of(s, 16));
            }
        }
    }

    private static void seeLayings(SliceSeller x, List<Integer> seen) {
        int slices = x.told(2);
        for (int s = 0; s < slices; s++) {
            seen.add(x.why(s));
        }
        seen.add(x.best());
        seen.add(x.tries());
        for (int s = 0; s < slices; s++) {
            seen.add(x.can(1 << s));
            seen.add(x.tries());
            seen.add(x.letIn(s));
            seen.add(x.host(s));
        }
        for (int s = 0; s < slices; s++) {
            seen.add(x.out(s));
            seen.add(x.terms(s, 0, 1, 1));
            seen.add(x.span(s, 0, 5, 63));
        }
        seen.add(x.node(1));
        seen.add(x.line(0, 1, 1, 1, 1));
        seen.add(x.slice(0, 0, 1, 1, 1));
    }
}
