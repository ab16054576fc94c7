/** The boundary cases that the document's promises 7 to 9 name: for each such sentence a test of its own. */
public final class ChangeEdgesTest extends Cases {
    private ChangeEdgesTest() {
        super("ChangeEdgesTest");
    }

    // ---- promise 7

    private void aLiveOneIsGone() {
        for (int kind : new int[] {LENT_ONE, DUE_ONE, LATER_ONE}) {
            LoanRounds x = Twins.made(BUSY);
            due("kind " + kind, x.cancel(kind), true);
            due("it is gone", x.task(kind, STATE), GONE);
            due("one less is live", x.count(LIVE), 11);
            due("DUE", x.task(kind, DUE), NONE);
            due("END", x.task(kind, END), NONE);
            due("not twice", x.cancel(kind), false);
        }
        LoanRounds x = Twins.made(BUSY);
        x.cancel(LENT_ONE);
        due("the worker has none", x.count(OF_WORKER), 0);
        due("the group has none", x.count(OF_GROUP), 0);
        due("the token is over", x.beat(2), false);
    }

    private void cancelOfWhatIsNotLive() {
        for (int q = 0; q < 4; q++) {
            for (int kind : new int[] {DONE_ONE, DEAD_ONE, GONE_ONE}) {
                int task = 6 * q + kind;
                idle("task " + task, BUSY, x -> x.cancel(task), false);
            }
        }
    }

    private void cancelOfNoneSuch() {
        for (int bad : outside(0, BUSY_TASKS - 1)) idleAnywhere("task " + bad, x -> x.cancel(bad), false);
        idle("task 0 where none came", FRESH, x -> x.cancel(0), false);
        idle("task 64 of 64", FULL, x -> x.cancel(64), false);
        due("task 63 of 64", Twins.made(FULL).cancel(63), true);
        due("task 0 of 64", Twins.made(FULL).cancel(0), true);
    }

    // ---- promise 8

    private void aDeadOneWaits() {
        LoanRounds x = Twins.made(BUSY);
        due("it was tried", x.task(DEAD_ONE, TRIES), 1);
        due("revive", x.revive(DEAD_ONE), true);
        due("it waits", x.task(DEAD_ONE, STATE), WAITING);
        due("DUE at TIME", x.task(DEAD_ONE, DUE), BUSY_TIME);
        due("with no TRIES", x.task(DEAD_ONE, TRIES), 0);
        due("its WEIGHT is its RANK", x.task(DEAD_ONE, WEIGHT), 1);
        due("one more is live", x.count(LIVE), 13);
        due("not twice", x.revive(DEAD_ONE), false);
    }

    private void reviveOfWhatIsNotDead() {
        for (int q = 0; q < 4; q++) {
            for (int kind : new int[] {DONE_ONE, GONE_ONE, LENT_ONE, DUE_ONE, LATER_ONE}) {
                int task = 6 * q + kind;
                idle("task " + task, BUSY, x -> x.revive(task), false);
            }
        }
    }

    private void reviveOfNoneSuch() {
        for (int bad : outside(0, BUSY_TASKS - 1)) idleAnywhere("task " + bad, x -> x.revive(bad), false);
        idle("task 0 where none came", FRESH, x -> x.revive(0), false);
        due("the last one that came", Twins.made(x -> {
            plain(x);
            plain(x);
            x.lend(0, 0);
            die(x, 0, x.lend(0, 0), 5);
        }).revive(1), true);
    }

    /** The task 0 is dead, and so many are live. */
    private static void deadBeside(LoanRounds x, int live) {
        plain(x);
        die(x, 0, x.lend(0, 0), 5);
        for (int i = 0; i < live; i++) x.add(0, 0, NONE, 0, i % 2);
    }

    private void reviveWhere64AreLive() {
        LoanRounds x = Twins.made(y -> deadBeside(y, 63));
        due("63 are live", x.revive(0), true);
        due("64 are live", x.count(LIVE), 64);
        idle("64 wait", y -> deadBeside(y, 64), y -> y.revive(0), false);
        idle("64 wait or are lent", y -> {
            deadBeside(y, 64);
            for (int i = 0; i < 32; i++) y.lend(i / 4, 0);
        }, y -> y.revive(0), false);
    }

    private void itsKeyIsNotAsked() {
        LoanRounds x = new LoanRounds();
        under(x, 7);
        die(x, 0, x.lend(0, 0), 5);
        due("the key comes anew", under(x, 7), 1);
        due("beside a waiting one", x.revive(0), true);
        x.lend(0, 0);
        die(x, 0, 1, 5);
        x.lend(0, 0);
        due("beside a lent one", x.revive(0), true);
        x.lend(0, 0);
        die(x, 0, 3, 5);
        x.end(2, DONE_SO);
        due("beside a done one", x.revive(0), true);
        due("both have the key", under(x, 7), 1);
    }

    // ---- promise 9

    private void setOfEachWhat() {
        int[] least = {1, 1, 1, 1, 0, 0, 0};
        int[] greatest = {200, 20, 100, 1000, 100, 1000, 8};
        for (int what = LOAN; what <= LIMIT; what++) {
            int at = what;
            int places = Settings.places(what);
            for (int which : new int[] {0, places - 1}) {
                LoanRounds x = new LoanRounds();
                due(what + " of " + which + ", the least", x.set(what, which, least[what]), true);
                due(what + " of " + which + ", the greatest", x.set(what, which, greatest[what]), true);
                for (int bad : outside(least[what], greatest[what])) {
                    idleAnywhere(what + " of " + which + ", " + bad, y -> y.set(at, which, bad), false);
                }
            }
            for (int bad : outside(0, places - 1)) {
                idleAnywhere(what + " of " + bad, y -> y.set(at, bad, greatest[at]), false);
            }
        }
    }

    private void setOfAnotherWhat() {
        for (int bad : outside(LOAN, LIMIT)) {
            for (int v : new int[] {0, 1, 8}) idleAnywhere("what " + bad, x -> x.set(bad, 0, v), false);
        }
    }

    private void run() {
        sentence("7: A LIVE TASK is GONE: true", this::aLiveOneIsGone);
        sentence("7: false if it isn't LIVE", this::cancelOfWhatIsNotLive);
        sentence("7: or there is none such", this::cancelOfNoneSuch);
        sentence("8: A DEAD TASK is WAITING, DUE at TIME, with no TRIES: true", this::aDeadOneWaits);
        sentence("8: false if it isn't DEAD", this::reviveOfWhatIsNotDead);
        sentence("8: there is none such", this::reviveOfNoneSuch);
        sentence("8: or 64 are LIVE", this::reviveWhere64AreLive);
        sentence("8: Whether one with its KEY is there is not asked", this::itsKeyIsNotAsked);
        sentence("9: true; false, changing nothing, for a number that can't be", this::setOfEachWhat);
        sentence("9: or another what", this::setOfAnotherWhat);
        close();
    }

    public static void main(String[] args) {
        new ChangeEdgesTest().run();
    }
}
