import java.lang.reflect.Method;
import java.util.HashMap;
import java.util.Map;
import java.util.Random;
import java.util.TreeMap;

/** Runs of calls drawn from fixed seeds, each answer compared with that of the model. */
public final class ModelTest {
    private static final int RUNS = 700;
    private static final int CALLS = 512;
    private static final int[] WRONG = {-1, -2, Integer.MIN_VALUE, Integer.MAX_VALUE, 6, 8, 9, 24, 64, 101, 256};

    private static final String[] CALL = {"node", "line", "up", "ways", "way", "flow", "cut", "slice", "terms",
        "span", "as", "of", "places", "letIn", "why", "out", "wayOf", "host", "load", "fallRoom", "work",
        "spare", "took", "lay", "can", "best", "tries", "offer", "run", "about", "sheet", "write", "copy",
        "read", "told"};
    private static final Method[] SELLER = methodsOf(SliceSeller.class);
    private static final Method[] MODEL = methodsOf(Model.class);

    private final Random random;
    private final SliceSeller seller = new SliceSeller();
    private final Model model = new Model();
    private final Due due;
    private final int run;
    /** How much room, work and rate the run draws: tight runs refuse often, wide ones seldom. */
    private final int room;
    private final int rate;
    /** Runs with all the LINES and SLICES there can be from the start. */
    private final boolean crowded;
    /** The kind that most SLICES of the run are of; 5: none. */
    private final int mostly;
    private final int[] arg = new int[5];

    private ModelTest(int run, Due due) {
        this.random = new Random(run);
        this.run = run;
        this.due = due;
        this.room = 1 + random.nextInt(50);
        this.rate = 1 + random.nextInt(20);
        this.crowded = run % 3 != 0;
        this.mostly = new int[] {1, 5, 2, 1, 4, 3}[random.nextInt(6)];
    }

    public static void main(String[] args) {
        Due due = new Due("ModelTest");
        Map<String, Integer> met = new HashMap<>();
        // With two arguments: other seeds, as many as wanted; the answers are counted then.
        int first = args.length == 2 ? Integer.parseInt(args[0]) : 0;
        int count = args.length == 2 ? Integer.parseInt(args[1]) : RUNS;
        for (int run = first; run < first + count && due.wrong() < 20; run++) {
            new ModelTest(run, due).go(met);
        }
        if (args.length == 2) {
            new TreeMap<>(met).forEach((k, v) -> System.out.println(k + ": " + v));
        }
        due.end();
    }

    private void go(Map<String, Integer> met) {
        begin();
        for (int i = 0; i < CALLS - 40; i++) {
            if (due.wrong() < 20) {
                int call = drawCall();
                drawArguments(call);
                if (random.nextInt(25) == 0) {
                    arg[random.nextInt(5)] = WRONG[random.nextInt(WRONG.length)];
                }
                met.merge(CALL[call] + " " + compare(call), 1, Integer::sum);
            }
        }
    }

    /** Some NODES and LINES, so that the calls behind have a net. */
    private void begin() {
        int nodes = 2 + random.nextInt(mostly == 1 ? 3 : 5);
        for (int i = 0; i < nodes; i++) {
            drawArguments(0);
            compare(0);
        }
        int lines = crowded ? 9 : random.nextInt(10);
        for (int i = 0; i < lines; i++) {
            drawArguments(1);
            compare(1);
        }
        int slices = crowded ? 8 : random.nextInt(6);
        for (int i = 0; i < slices; i++) {
            drawArguments(7);
            compare(7);
            drawArguments(8);
            compare(8);
        }
    }

    private int drawCall() {
        int call = random.nextInt(CALL.length);
        // What is dear in the model, or fills up soon, is drawn less often.
        boolean seldom = call <= 1 || call == 7 || call >= 23 && call <= 25;
        if (seldom && random.nextInt(8) != 0) {
            return random.nextInt(3) == 0 ? 13 : random.nextInt(2) == 0 ? 27 : 28;
        }
        return call;
    }

    private int below(int n) {
        return random.nextInt(Math.max(1, n));
    }

    private int anyNode() {
        return below(model.told(0));
    }

    private int anyLine() {
        return below(model.told(1));
    }

    private int anySlice() {
        return below(model.told(2));
    }

    private int anyKind() {
        return mostly < 5 && random.nextInt(3) != 0 ? mostly : below(5);
    }

    private void set(int a, int b, int c, int d, int e) {
        arg[0] = a;
        arg[1] = b;
        arg[2] = c;
        arg[3] = d;
        arg[4] = e;
    }

    private void drawArguments(int call) {
        int a = anyNode();
        int b = random.nextInt(20) == 0 ? anyNode() : (a + 1 + below(model.told(0) - 1)) % Math.max(1, model.told(0));
        switch (CALL[call]) {
            case "node" -> set(below(random.nextBoolean() ? 101 : 30), 0, 0, 0, 0);
            case "line" -> set(a, b, 1 + below(room), 1 + below(random.nextBoolean() ? 9 : 2), below(10));
            case "up" -> set(anyLine(), below(4), 0, 0, 0);
            case "ways" -> set(a, b, 0, 0, 0);
            case "way" -> set(a, b, below(9), below(7) - 1, 0);
            case "flow", "cut" -> set(a, b, below(24), 0, 0);
            case "slice" -> set(anyKind(), a, b, 1 + below(rate), 1 + below(random.nextBoolean() ? 99 : 12));
            case "terms" -> set(anySlice(), below(random.nextBoolean() ? 3 : 21), below(21), below(4) * 100, 0);
            case "span" -> {
                int first = below(24);
                set(anySlice(), first, first + below(24 - first), below(64), 0);
            }
            case "as" -> set(anySlice(), below(5), 0, 0, 0);
            case "of" -> set(anySlice(), below(18), 0, 0, 0);
            case "places", "letIn", "why", "out", "host" -> set(anySlice(), 0, 0, 0, 0);
            case "wayOf" -> set(anySlice(), below(2), below(6), 0, 0);
            case "load", "fallRoom" -> set(anyLine(), below(24), 0, 0, 0);
            case "work" -> set(a, below(24), 0, 0, 0);
            case "spare" -> set(anyLine(), 0, 0, 0, 0);
            case "took" -> set(anyLine() - below(2), 0, 0, 0, 0);
            case "lay", "can" -> set(random.nextInt(1 << model.told(2)), 0, 0, 0, 0);
            case "offer" -> set(anySlice(), 1 + below(100), 0, 0, 0);
            case "run" -> set(1 + below(random.nextBoolean() ? 24 : 3), 0, 0, 0, 0);
            case "about" -> set(anyLine(), below(9), 0, 0, 0);
            case "sheet" -> set(below(4), new int[] {0, 8, 8, 16, 32, 32}[below(6)], below(10), 0, 0);
            case "write" -> set(below(4), below(8), random.nextBoolean() ? below(120) : random.nextInt(), 0, 0);
            case "copy" -> set(below(4), below(5), below(4), below(5), below(5));
            case "read" -> set(below(4), 0, 0, 0, 0);
            default -> set(below(8), 0, 0, 0, 0);
        }
    }

    private int compare(int call) {
        int got = ask(SELLER[call], seller);
        int want = ask(MODEL[call], model);
        StringBuilder text = new StringBuilder("run " + run + ": " + CALL[call]);
        for (int v : arg) {
            text.append(' ').append(v);
        }
        due.is(text.toString(), got, want);
        due.is(text + ", then told(5)", seller.told(5), model.told(5));
        return want;
    }

    /** The calls of both are of the same face, so they are asked by name. */
    private static Method[] methodsOf(Class<?> type) {
        Method[] methods = new Method[CALL.length];
        for (int i = 0; i < CALL.length; i++) {
            for (Method m : type.getDeclaredMethods()) {
                if (m.getName().equals(CALL[i])) {
                    methods[i] = m;
                }
            }
        }
        return methods;
    }

    private int ask(Method method, Object of) {
        Class<?>[] types = method.getParameterTypes();
        Object[] values = new Object[types.length];
        for (int i = 0; i < types.length; i++) {
            values[i] = types[i] == boolean.class ? (Object) (arg[i] != 0) : (Object) arg[i];
        }
        try {
            return (int) method.invoke(of, values);
        } catch (ReflectiveOperationException e) {
            throw new IllegalStateException(method + " of run " + run, e);
        }
    }
}
