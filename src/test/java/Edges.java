import java.util.ArrayList;
import java.util.HashSet;
import java.util.List;
import java.util.Map;
import java.util.Set;
import java.util.function.Supplier;

/** Tests of sentences of the document: which one is tested, and what a refused call must leave alone. */
final class Edges {
    static final int BEYOND = -1000001;
    static final int FULL = -1000002;
    static final int STATE = -1000003;
    static final int KIND = -1000004;
    static final int NONE = -1000005;
    static final int SPENT = -1000006;
    static final int MISSING = -1000007;
    static final int SIZE = -1000008;
    static final int MIN = Integer.MIN_VALUE;
    static final int MAX = Integer.MAX_VALUE;

    interface Call {
        int on(SliceSeller x);
    }

    interface CallWith {
        int on(SliceSeller x, int v);
    }

    private final Due due = new Due("EdgesTest");
    private final Document document = new Document();
    private final Set<String> tested = new HashSet<>();
    private String at = "";

    /** What comes now tests this sentence. */
    void sentence(String section, String text) {
        at = section + ": " + (text.length() > 40 ? text.substring(0, 40) + ".." : text) + " | ";
        due.holds(at + "stands in the document", document.says(section, text));
        due.holds(at + "is tested once", tested.add(section + text));
    }

    void promise(int number, String text) {
        sentence("Promise " + number, text);
    }

    void terms(String text) {
        sentence("Terms", text);
    }

    void is(String call, long got, long want) {
        due.is(at + call, got, want);
    }

    void holds(String what, boolean held) {
        due.holds(at + what, held);
    }

    void says(String call, String got, String want) {
        due.holds(at + call + " is " + got + ", due is " + want, got.equals(want));
    }

    /** The call answers the finding, and another object of the same making can't be told from this one. */
    void refuses(String name, Supplier<SliceSeller> made, Call call, int finding) {
        is(name, call.on(made.get()), finding);
        for (int probe = 0; probe < Probe.COUNT; probe++) {
            SliceSeller refused = made.get();
            SliceSeller other = made.get();
            call.on(refused);
            due.holds(at + name + " changes nothing that probe " + probe + " sees",
                    Probe.see(refused, probe).equals(Probe.see(other, probe)));
        }
        SliceSeller refused = made.get();
        int before = refused.told(5);
        int tries = refused.tries();
        call.on(refused);
        is(name + ", then told(5)", refused.told(5), before + 1);
        boolean lays = name.startsWith("lay") || name.startsWith("can") || name.startsWith("best");
        if (!lays || finding == BEYOND) {
            is(name + ", then tries()", refused.tries(), tries);
        }
    }

    /** A call with a number from least to most goes; with any other one it is BEYOND. */
    void within(String name, Supplier<SliceSeller> made, int least, int most, CallWith call) {
        for (int v : List.of(least, most, least + (most - least) / 2)) {
            holds(name + " with " + v + " goes", call.on(made.get(), v) >= -1000000);
        }
        for (int v : outside(least, most)) {
            refuses(name + " with " + v, made, x -> call.on(x, v), BEYOND);
        }
    }

    /** Numbers just outside, far outside, and those that a shift or a cut to fewer bits would bring inside. */
    static List<Integer> outside(int least, int most) {
        int[] candidates = {least - 1, most + 1, least - 32, least + 32, most + 32, least + 64, least - 256,
            least + 256, least + 65536, MIN, MIN + 1, MAX};
        List<Integer> all = new ArrayList<>();
        for (int v : candidates) {
            if ((v < least || v > most) && !all.contains(v)) {
                all.add(v);
            }
        }
        return all;
    }

    /** Every sentence of the document is tested, but those that are told to name no boundary. */
    void end(Set<String> withoutBoundary) {
        at = "";
        for (Map.Entry<String, List<String>> section : document.sections().entrySet()) {
            for (String s : section.getValue()) {
                boolean is = tested.contains(section.getKey() + s);
                due.holds(section.getKey() + " is tested: " + s, is || withoutBoundary.contains(s));
            }
        }
        due.holds("the document has what it is, its terms and 36 promises", document.sections().size() == 38);
        due.end();
    }
}
