import java.util.ArrayList;
import java.util.List;
import java.util.Random;

/**
 * Tells whether a call changes anything: two objects are made alike, one of them gets the call, and both must
 * answer alike from then on. Each question has new objects, so that none comes near its 512th call.
 */
final class Twins {
    /** The calls that bring a new object into a state. */
    interface Making {
        void make(LoanRounds x);
    }

    /** A call on an object that is made for it. */
    interface Call {
        Object on(LoanRounds x);
    }

    static final String NO_DIFFERENCE = "no difference";

    private static final int WHATS_OF_A_TASK = 7;
    private static final int SETTINGS = 7;
    private static final int FUTURES = 6;
    private static final int CALLS_OF_A_FUTURE = 100;

    private Twins() {
    }

    static LoanRounds made(Making state) {
        LoanRounds x = new LoanRounds();
        state.make(x);
        return x;
    }

    /** The first answer that is another one behind the call than without it. */
    static String difference(Making state, Call call) {
        Making called = x -> {
            state.make(x);
            Checks.told(() -> call.on(x));
        };
        List<String> with = answers(called);
        List<String> without = answers(state);
        for (int i = 0; i < Math.min(with.size(), without.size()); i++) {
            if (!with.get(i).equals(without.get(i))) return with.get(i) + " in place of " + without.get(i);
        }
        return with.size() == without.size() ? NO_DIFFERENCE : with.size() + " in place of " + without.size();
    }

    // What can be asked for comes first; keys and tokens show in what comes of them, settings are measured.
    private static List<String> answers(Making state) {
        List<String> answers = new ArrayList<>();
        askForAll(made(state), answers);
        for (int what = 0; what < WHATS_OF_A_TASK; what++) askForEachTask(made(state), what, answers);
        for (int future = 0; future < FUTURES; future++) drawAFuture(made(state), new Random(future), answers);
        for (int what = 0; what < SETTINGS; what++) measure(state, what, answers);
        return answers;
    }

    private static void measure(Making state, int what, List<String> answers) {
        Making cleared = x -> {
            state.make(x);
            for (int t = x.count(1) - 1; t >= 0; t--) x.cancel(t);
        };
        for (int i = 0; i < Settings.places(what); i++) {
            int which = i;
            String measured = Checks.told(() -> Settings.measured(cleared, what, which));
            answers.add("setting " + what + " of " + which + " " + measured);
        }
    }

    private static void askForAll(LoanRounds x, List<String> answers) {
        for (int what = 0; what <= 24; what++) answers.add("count(" + what + ") " + x.count(what));
        for (int q = 0; q < 4; q++) answers.add("first(" + q + ") " + x.first(q));
        answers.add("next() " + x.next());
    }

    private static void askForEachTask(LoanRounds x, int what, List<String> answers) {
        int came = x.count(1);
        for (int t = 0; t < came; t++) answers.add("task(" + t + ", " + what + ") " + x.task(t, what));
    }

    private static void drawAFuture(LoanRounds x, Random random, List<String> answers) {
        for (int i = 0; i < CALLS_OF_A_FUTURE; i++) answers.add(drawACall(x, random));
        askForAll(x, answers);
        askForEachTask(x, 2, answers);
        askForEachTask(x, 3, answers);
    }

    private static String drawACall(LoanRounds x, Random random) {
        int q = random.nextInt(4), w = random.nextInt(8), kind = random.nextInt(12);
        int key = random.nextInt(9), group = random.nextInt(9) - 1, small = random.nextInt(4);
        int came = x.count(1);
        int t = came == 0 ? 0 : random.nextInt(came);
        if (kind < 3) return "add " + Checks.told(() -> x.add(q, small, group, key, small));
        if (kind < 7) return "lend " + Checks.told(() -> x.lend(w, q));
        if (kind < 9) return "end " + Checks.told(() -> x.end(x.task(t, 5), small));
        if (kind == 9) return "beat " + Checks.told(() -> x.beat(x.task(t, 5)));
        if (kind == 10) return "tick " + Checks.told(() -> x.tick(1 + small));
        return "cancel, revive " + Checks.told(() -> small == 0 ? x.cancel(t) : x.revive(t));
    }
}
