import java.util.LinkedHashMap;
import java.util.Map;
import java.util.TreeSet;
import java.util.function.Supplier;

/** All that the looking calls show of an object, each with its answer. */
final class View {
    private static final int NONE = SecretEnds.NONE;
    // Far above what there is of each, so that a program with a fault cannot keep a test from ending.
    private static final int MOST_BYTES = 3000;
    private static final int MOST_RECORDS = 50;

    private final Supplier<Bench> run;
    private final Map<String, Integer> shown = new LinkedHashMap<>();
    private Bench bench = null;

    private View(Supplier<Bench> run) {
        this.run = run;
    }

    /** What the object shows behind this run; the run is made again wherever one object's 512 calls are used up. */
    static Map<String, Integer> of(Supplier<Bench> run) {
        View view = new View(run);
        view.look();
        return view.shown;
    }

    static void dueSame(String what, Map<String, Integer> got, Map<String, Integer> want) {
        TreeSet<String> calls = new TreeSet<>(want.keySet());
        calls.addAll(got.keySet());
        for (String call : calls) {
            // What was not asked for stands behind the last of a row, where none is.
            Check.due(what + ", then " + call, got.getOrDefault(call, NONE), want.getOrDefault(call, NONE));
        }
    }

    private Counted x() {
        if (bench == null || bench.x.calls() == Counted.MOST) {
            bench = run.get();
        }
        return bench.x;
    }

    private int show(String call, int answer) {
        shown.put(call, answer);
        return answer;
    }

    private void look() {
        show("about(0)", x().about(0));
        int ends = show("about(1)", x().about(1));
        for (int i = 0; i < 32; i++) {
            show("hash(" + i + ")", x().hash(i));
        }
        for (int end = 0; end < ends; end++) {
            lookAtEnd(end);
        }
    }

    private void lookAtEnd(int end) {
        for (int what = 0; what < 10; what++) {
            show("state(" + end + ", " + what + ")", x().state(end, what));
        }
        for (int what = 0; what < 2; what++) {
            int i = 0;
            while (i < 32 && show("secret(" + end + ", " + what + ", " + i + ")", x().secret(end, what, i)) != NONE) {
                i++;
            }
        }
        int at = 0;
        while (at < MOST_BYTES && show("given(" + end + ", " + at + ")", x().given(end, at)) != NONE) {
            at++;
        }
        int k = 0;
        while (k < MOST_RECORDS && lookAtRecord(end, k)) {
            k++;
        }
    }

    private boolean lookAtRecord(int end, int k) {
        int i = 0;
        while (i < MOST_BYTES && show("written(" + end + ", " + k + ", " + i + ")", x().written(end, k, i)) != NONE) {
            i++;
        }
        return i > 0;
    }
}
