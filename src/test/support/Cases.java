/** What the tests by hand share: some states to begin with, and how an answer is looked at. */
abstract class Cases extends Terms {
    static final String REFUSED = "IllegalArgumentException";
    static final String NO_ROOM = "IllegalStateException";
    static final String NO_SUCH = "NoSuchElementException";

    // What busy makes of each queue q: the task 6 * q + one of these.
    static final int DONE_ONE = 0, DEAD_ONE = 1, GONE_ONE = 2, LENT_ONE = 3, DUE_ONE = 4, LATER_ONE = 5;
    static final int BUSY_TASKS = 24, BUSY_TOKENS = 12, BUSY_TIME = 5;

    static final Twins.Making FRESH = x -> { };
    static final Twins.Making BUSY = Cases::busy;
    static final Twins.Making FULL = Cases::full;
    static final Twins.Making ALL_CAME = Cases::allCame;

    private final Checks checks;
    private String words = "";

    Cases(String test) {
        checks = new Checks(test);
    }

    /** One sentence of the document with the test that is its own. */
    final void sentence(String ofTheDocument, Runnable test) {
        words = "'" + ofTheDocument + "': ";
        int before = checks.looked();
        String how = Checks.told(() -> {
            test.run();
            return "ended";
        });
        checks.due(words + "the test", how, "ended");
        checks.due(words + "answers were looked at", checks.looked() > before + 1, true);
        words = "";
    }

    final void close() {
        checks.close();
    }

    final void due(String what, long got, long want) {
        checks.due(words + what, got, want);
    }

    final void due(String what, boolean got, boolean want) {
        checks.due(words + what, got, want);
    }

    final void refused(String what, Checks.Call call) {
        checks.due(words + what, Checks.told(call), REFUSED);
    }

    final void noRoom(String what, Checks.Call call) {
        checks.due(words + what, Checks.told(call), NO_ROOM);
    }

    final void noSuch(String what, Checks.Call call) {
        checks.due(words + what, Checks.told(call), NO_SUCH);
    }

    /** The call answers so (a number, true, false or the name of an exception) and changes nothing. */
    final void idle(String what, Twins.Making state, Twins.Call call, Object want) {
        LoanRounds x = Twins.made(state);
        checks.due(words + what, Checks.told(() -> call.on(x)), String.valueOf(want));
        checks.due(words + what + ", what it changes,", Twins.difference(state, call), Twins.NO_DIFFERENCE);
    }

    /** The same on a new object and on a busy one. */
    final void idleAnywhere(String what, Twins.Call call, Object want) {
        idle(what + " on a new object", FRESH, call, want);
        idle(what + " on a busy object", BUSY, call, want);
    }

    static int[] outside(int least, int greatest) {
        return new int[] {least - 1, greatest + 1, Integer.MIN_VALUE, Integer.MAX_VALUE};
    }

    /** 64 tasks, one in four of each queue, all due, with the keys 1 to 64. */
    static void full(LoanRounds x) {
        for (int i = 0; i < 64; i++) x.add(i % 4, 0, NONE, i + 1, 0);
    }

    /** 400 tasks that came, of which only the last, with the key 5, is live. */
    static void allCame(LoanRounds x) {
        for (int i = 0; i < 399; i++) x.cancel(plain(x));
        x.add(0, 0, NONE, 5, 0);
    }

    /** One task of each kind in each queue, and nothing set as it is at first. */
    static void busy(LoanRounds x) {
        for (int q = 0; q < 4; q++) {
            int[] settings = {6 + q, 2 + q, 2 + q, 5 + q, 1 + q, 3 + q};
            for (int what = LOAN; what <= MEMORY; what++) x.set(what, q, settings[what]);
        }
        for (int g = 0; g < 8; g++) x.set(LIMIT, g, 1 + g % 3);
        x.tick(BUSY_TIME - 2);
        for (int q = 0; q < 4; q++) {
            x.add(q, 0, NONE, 1, 0);
            x.end(x.lend(q, q), DONE_SO);
            x.add(q, 1, NONE, 2, 0);
            die(x, q, x.lend(q, q), 2 + q);
            x.add(q, 2, NONE, 3, 0);
            x.cancel(6 * q + GONE_ONE);
            x.add(q, 3, q, 4, 0);
            x.lend(q, q);
            x.add(q, 1, 4 + q, 5, 0);
            x.add(q, 2, NONE, 6, 4);
        }
        x.tick(2);
    }
}
