/** The document's numbers by name, and small steps of several calls. */
abstract class Terms {
    static final int NONE = LoanRounds.NONE;
    static final int LOAN = 0, MOST = 1, BASE = 2, TOP = 3, GROWTH = 4, MEMORY = 5, LIMIT = 6;
    static final int STATE = 0, TRIES = 1, DUE = 2, END = 3, WORKER = 4, TOKEN = 5, WEIGHT = 6;
    static final int WAITING = 0, LENT = 1, DONE = 2, DEAD = 3, GONE = 4;
    static final int DONE_SO = 0, FAILED = 1, BACK = 2;
    static final int TIME = 0, CAME = 1, LIVE = 2, LENT_ONES = 3, DEAD_ONES = 4;
    static final int OF_WORKER = 5, OF_GROUP = 13, OF_QUEUE = 21;

    static int plain(LoanRounds x) {
        return x.add(0, 0, NONE, 0, 0);
    }

    static int under(LoanRounds x, long key) {
        return x.add(0, 0, NONE, key, 0);
    }

    static int lendAndFail(LoanRounds x, int queue) {
        return x.end(x.lend(0, queue), FAILED);
    }

    static int waitOf(LoanRounds x, int task) {
        return x.task(task, DUE) - x.count(TIME);
    }

    static void pass(LoanRounds x, int ticks) {
        for (int left = ticks; left > 0; left -= 1000) x.tick(Math.min(left, 1000));
    }

    /** What is lent with a token dies; MOST of its queue is as it was behind that. */
    static void die(LoanRounds x, int queue, int token, int most) {
        x.set(MOST, queue, 1);
        x.end(token, FAILED);
        x.set(MOST, queue, most);
    }
}
