/** What a setting comes to in an object in which nothing is live: found by its working, as it can't be asked for. */
final class Settings extends Terms {
    private static final int A_KEY_OF_ITS_OWN = 77_777;

    private Settings() {
    }

    static int places(int what) {
        return what == LIMIT ? 8 : 4;
    }

    static int measured(Twins.Making state, int what, int which) {
        LoanRounds x = Twins.made(state);
        switch (what) {
            case LOAN: return loan(x, which);
            case MOST: return most(x, which);
            case BASE: return base(x, which);
            case TOP: return top(x, which);
            case GROWTH: return growth(x, which);
            case MEMORY: return memory(state, which);
            default: return limit(x, which);
        }
    }

    private static int loan(LoanRounds x, int queue) {
        int task = x.add(queue, 0, NONE, 0, 0);
        x.lend(0, queue);
        return x.task(task, END) - x.count(TIME);
    }

    private static int most(LoanRounds x, int queue) {
        x.set(BASE, queue, 1);
        x.set(TOP, queue, 1);
        int task = x.add(queue, 0, NONE, 0, 0);
        int tries = 0;
        while (x.task(task, STATE) == WAITING && tries < 30) {
            lendAndFail(x, queue);
            x.tick(1);
            tries++;
        }
        return tries;
    }

    private static int base(LoanRounds x, int queue) {
        x.set(MOST, queue, 20);
        x.set(TOP, queue, 1000);
        int task = x.add(queue, 0, NONE, 0, 0);
        lendAndFail(x, queue);
        return waitOf(x, task);
    }

    // The fifth wait would be 1600 ticks, which is more than any TOP.
    private static int top(LoanRounds x, int queue) {
        x.set(MOST, queue, 20);
        x.set(BASE, queue, 100);
        int task = x.add(queue, 0, NONE, 0, 0);
        for (int tries = 1; tries <= 4; tries++) {
            lendAndFail(x, queue);
            x.tick(waitOf(x, task));
        }
        lendAndFail(x, queue);
        return waitOf(x, task);
    }

    private static int growth(LoanRounds x, int queue) {
        int task = x.add(queue, 0, NONE, 0, 0);
        for (int ticks = 1; ticks <= 110; ticks++) {
            x.tick(1);
            if (x.task(task, WEIGHT) == 1) return ticks;
        }
        return 0;
    }

    private static int memory(Twins.Making state, int queue) {
        int ticks = 0;
        for (int step = 1024; step > 0; step /= 2) {
            if (remembers(Twins.made(state), queue, ticks + step)) ticks += step;
        }
        return ticks;
    }

    private static boolean remembers(LoanRounds x, int queue, int ticks) {
        int task = x.add(queue, 0, NONE, A_KEY_OF_ITS_OWN, 0);
        x.end(x.lend(0, queue), DONE_SO);
        pass(x, ticks);
        return x.add(queue, 0, NONE, A_KEY_OF_ITS_OWN, 0) == task;
    }

    private static int limit(LoanRounds x, int group) {
        int lent = 0;
        for (int i = 0; i < 9; i++) x.add(i % 4, 0, group, 0, 0);
        for (int i = 0; i < 9; i++) {
            if (x.lend(i % 8, i % 4) != NONE) lent++;
        }
        return lent;
    }
}
