import java.util.LinkedHashMap;
import java.util.Map;
import java.util.function.Predicate;
import java.util.function.Supplier;
import java.util.function.ToIntFunction;

/** Two objects with the same calls but for one: what is refused must change nothing that a later call shows. */
final class Twins {
    private static final int NONE = SecretEnds.NONE;

    private final Supplier<Bench> setUp;
    private final Map<String, Integer> without;

    Twins(Supplier<Bench> setUp) {
        this.setUp = setUp;
        without = lookAndGoOn(setUp);
    }

    /** The call answers NONE, and nothing is done. */
    void dueNone(String call, ToIntFunction<Counted> refused) {
        dueUnchanged(call, refused, NONE);
    }

    /** The call answers false, and nothing is done. */
    void dueFalse(String call, Predicate<Counted> refused) {
        dueUnchanged(call, x -> refused.test(x) ? 1 : 0, 0);
    }

    /** The call answers this, and nothing is done. */
    void dueUnchanged(String call, ToIntFunction<Counted> idle, int answer) {
        Check.due(call, idle.applyAsInt(setUp.get().x), answer);
        Map<String, Integer> with = lookAndGoOn(() -> {
            Bench bench = setUp.get();
            idle.applyAsInt(bench.x);
            return bench;
        });
        View.dueSame(call, with, without);
    }

    /** What is shown at once; and, as what is told shows later only, what a run behind it answers and shows. */
    private static Map<String, Integer> lookAndGoOn(Supplier<Bench> run) {
        Map<String, Integer> all = View.of(run);
        goOn(run.get().x, all);
        View.of(() -> {
            Bench bench = run.get();
            goOn(bench.x, new LinkedHashMap<>());
            return bench;
        }).forEach((call, answer) -> all.put("much later " + call, answer));
        return all;
    }

    private static void goOn(Counted x, Map<String, Integer> answers) {
        for (int end = 0; end < 4; end++) {
            // Only where it may start: a start that is refused could itself do what the call before it must not.
            if (x.state(end, 0) == 0) {
                answers.put("start " + end, x.start(end) ? 1 : 0);
            }
        }
        int[][] ways = {{0, 1}, {1, 0}, {1, 0}, {1, 0}, {0, 1}};
        for (int i = 0; i < ways.length; i++) {
            answers.put("carry " + i, x.carry(ways[i][0], ways[i][1]));
        }
        for (int end = 0; end < 2; end++) {
            answers.put("feed " + end, x.feed(end, 2, 3, 4, 5));
            answers.put("say " + end, x.say(end));
            answers.put("the talk is carried from " + end, x.carry(end, 1 - end));
            answers.put("update " + end, x.update(end, 1 - end));
            answers.put("the update is carried from " + end, x.carry(end, 1 - end));
        }
        answers.put("close", x.close(1) ? 1 : 0);
        answers.put("give", x.give(0));
        answers.put("make", x.make(true));
    }
}
