import java.util.Set;

/**
 * Each sentence of the document that names a boundary case (too small, too large, empty, full, a
 * wrap-around, a refused call) has a test of its own here, which begins with that sentence.
 */
public final class EdgesTest {
    /** What it is as a whole, and under which words the calls are sorted, names no boundary. */
    private static final Set<String> WITHOUT_BOUNDARY = Set.of(
            "A seller of slices of a net: lines with room, lateness and prices; slices let in with ways and hosts so that"
                    + " all promises hold; sure ones with a spare way whose room is shared between falls that never meet;"
                    + " why one is refused, and what cut forbids it; all laid anew where that makes room, and the dearest"
                    + " set that can be; a day run tick by tick in which spare room is lent by turns and falls are borne;"
                    + " accounts by slice and by line",
            "Ahead of the calls `node`, `line`, `up`, `ways`, `way`, `flow`, `cut` the interface says: ---- the net",
            "Ahead of the calls `slice`, `terms`, `span`, `as`, `of`, `places`, `letIn`, `why`, `out`, `wayOf`, `host`,"
                    + " `load`, `fallRoom`, `work`, `spare`, `took` the interface says: ---- slices",
            "Ahead of the calls `lay`, `can`, `best`, `tries` the interface says: ---- laid anew",
            "Ahead of the calls `offer`, `run`, `about` the interface says: ---- the day",
            "Ahead of the calls `sheet`, `write`, `copy`, `read`, `told` the interface says: ---- sheets");

    public static void main(String[] args) {
        Edges e = new Edges();
        new NetEdges(e).test();
        new SliceEdges(e).test();
        new PlaceEdges(e).test();
        new LayEdges(e).test();
        new DayEdges(e).test();
        new SheetEdges(e).test();
        e.end(WITHOUT_BOUNDARY);
    }
}
