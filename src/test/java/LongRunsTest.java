import java.util.ArrayList;
import java.util.List;
import java.util.Map;
import java.util.Random;
import java.util.TreeMap;

/**
 * All promises together: runs of up to 512 calls on one object, with sizes changed, words taken,
 * operations and refused calls mixed, of which each call is compared with what the Model answers.
 */
public final class LongRunsTest {
    private static final int MOST_CALLS = 512;
    private static final int CALLS_OF_A_FULL_LOOK = 150;
    private static final int RUNS = 400;
    private static final int LEAST_OFTEN = 50;
    private static final String[] OUTCOMES = {
        "complement answers", "flip answers", "flip throws IndexOutOfBoundsException",
        "flips answers", "flips throws IllegalArgumentException", "mirror answers",
        "note answers", "note throws IndexOutOfBoundsException",
        "put answers", "put throws IndexOutOfBoundsException", "rank answers",
        "rows answers", "rows throws IllegalArgumentException",
        "show answers", "show throws IllegalArgumentException",
        "size answers", "size throws IllegalArgumentException",
        "take answers", "take throws IllegalArgumentException", "take throws IllegalStateException",
        "turn answers", "unrank answers", "unrank throws IllegalArgumentException",
    };

    private static final Map<String, Integer> seen = new TreeMap<>();

    private final String name;
    private final CatalanWeb web = new CatalanWeb();
    private final Model model = new Model();
    private final CallMaker maker;
    private final List<Call> waiting = new ArrayList<>();
    private int made = 0;

    private LongRunsTest(String name, CallMaker maker) {
        this.name = name;
        this.maker = maker;
    }

    public static void main(String[] args) {
        for (CallMaker.Kind kind : CallMaker.Kind.values()) {
            for (int seed = 0; seed < RUNS; seed++) {
                run(kind, seed).calls(MOST_CALLS);
            }
        }
        ofOneCall();
        endedByFullLooks();
        besideOneAnother();
        written();
        allOutcomes();
        Checks.end();
    }

    private static LongRunsTest run(CallMaker.Kind kind, int seed) {
        return new LongRunsTest(kind + " run " + seed, new CallMaker(kind, new Random(seed)));
    }

    private void calls(int number) {
        for (int i = 0; i < number; i++) {
            call();
        }
    }

    private void call() {
        if (waiting.isEmpty()) {
            waiting.addAll(maker.next(model));
        }
        call(waiting.remove(0));
    }

    private void call(Call call) {
        made++;
        String want = model.answer(call);
        Checks.due(name + ", call " + made + ": " + call, call.on(web), want);
        seen.merge(call.name() + " " + (want.startsWith("throws") ? want : "answers"), 1, Integer::sum);
    }

    /** One call, with arguments that are allowed, as often as an object may be used. */
    private static void ofOneCall() {
        for (String name : Call.NAMES) {
            for (int n = 1; n <= 9; n++) {
                LongRunsTest run = run(CallMaker.Kind.ALL_MIXED, n);
                run.call(Call.of("size", n));
                run.call(Call.of("unrank", Oracle.WORDS[n] / 2));
                run.call(Call.of("show", n % Oracle.FAMILIES));
                while (run.made < MOST_CALLS) {
                    run.call(run.maker.allowed(name, run.model));
                }
            }
        }
    }

    /** Runs of every length, behind which all that can be seen of the object is looked at. */
    private static void endedByFullLooks() {
        for (int length = 0; length <= MOST_CALLS - CALLS_OF_A_FULL_LOOK; length++) {
            LongRunsTest run = run(CallMaker.Kind.ALL_MIXED, RUNS + length);
            run.calls(length);
            run.model.standing().dueOn(run.name + ", after " + length + " calls", run.web);
        }
    }

    /** Objects used by turns share nothing. */
    private static void besideOneAnother() {
        List<LongRunsTest> runs = new ArrayList<>();
        for (int seed = 0; seed < 20; seed++) {
            runs.add(run(CallMaker.Kind.ALL_MIXED, 2 * RUNS + seed));
        }
        for (int i = 0; i < MOST_CALLS; i++) {
            for (LongRunsTest run : runs) {
                run.call();
            }
        }
    }

    /** A written run, whose answers are worked from the document by hand, not by the Model. */
    private static void written() {
        CatalanWeb web = new CatalanWeb();
        String[][] rows = {
            {"take 0", "throws IllegalStateException"}, {"size 3", "5"}, {"put 0 1", "nothing"},
            {"take 4", "throws IllegalStateException"}, {"put 1 1", "nothing"}, {"put 2 3", "nothing"},
            {"take 4", "2"}, {"put 20 1", "throws IndexOutOfBoundsException"}, {"rank", "2"},
            {"flip 2", "throws IndexOutOfBoundsException"}, {"mirror", "3"}, {"show 0", "6"},
            {"note 0", "1"}, {"note 1", "0"}, {"note 2", "1"}, {"note 3", "1"}, {"note 4", "0"},
            {"note 5", "0"}, {"size 2", "2"}, {"take 0", "throws IllegalStateException"},
            {"rank", "0"}, {"put 2 0", "nothing"}, {"take 0", "throws IllegalStateException"},
            {"put 2 1", "nothing"}, {"put 3 0", "nothing"}, {"take 0", "1"}, {"flips 0", "1"},
            {"rank", "1"}, {"turn", "0"}, {"flips 2", "throws IllegalArgumentException"},
            {"complement", "1"}, {"size 10", "throws IllegalArgumentException"}, {"rank", "1"},
            {"size 7", "429"}, {"flips 0", "throws IllegalArgumentException"}, {"note 3", "0"},
        };
        for (String[] row : rows) {
            String[] parts = row[0].split(" ");
            List<Integer> arguments = new ArrayList<>();
            for (int i = 1; i < parts.length; i++) {
                arguments.add(Integer.valueOf(parts[i]));
            }
            Checks.due("written run: " + row[0], new Call(parts[0], arguments).on(web), row[1]);
        }
    }

    /** Random calls could miss what they are for, so each outcome must have come up often. */
    private static void allOutcomes() {
        Checks.due("the outcomes of all calls", seen.keySet().toString(), List.of(OUTCOMES).toString());
        for (Map.Entry<String, Integer> outcome : seen.entrySet()) {
            Checks.due(outcome + " is often enough", outcome.getValue() >= LEAST_OFTEN, true);
        }
    }
}
