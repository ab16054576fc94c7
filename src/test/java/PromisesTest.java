/** Each promise of the document in ordinary use; the boundary cases have tests of their own, the EdgesTests. */
public final class PromisesTest extends Cases {
    private PromisesTest() {
        super("PromisesTest");
    }

    // ---- promise 1

    private void objectsAreApart() {
        LoanRounds x = new LoanRounds();
        LoanRounds y = new LoanRounds();
        x.set(LOAN, 0, 3);
        x.set(LIMIT, 0, 0);
        x.tick(5);
        plain(x);
        due("1 other count", y.count(1), 0);
        due("1 other time", y.count(0), 0);
        y.add(0, 0, 0, 0, 0);
        due("1 other limit", y.lend(0, 0), 0);
        due("1 other loan", y.task(0, END), 10);
    }

    // ---- promise 2

    private void addNumbersAndDues() {
        LoanRounds x = new LoanRounds();
        due("2 first number", x.add(0, 0, NONE, 0, 0), 0);
        due("2 second number", x.add(3, 3, 7, 9, 1000), 1);
        x.tick(7);
        due("2 third number", x.add(1, 1, 0, -9, 5), 2);
        due("2 due now", x.task(0, DUE), 0);
        due("2 due after 1000", x.task(1, DUE), 1000);
        due("2 due from time", x.task(2, DUE), 12);
        for (int i = 0; i < 3; i++) {
            due("2 waiting", x.task(i, STATE), WAITING);
            due("2 no tries", x.task(i, TRIES), 0);
        }
        due("2 in queue 0", x.count(21), 1);
        due("2 in queue 1", x.count(22), 1);
        due("2 in queue 2", x.count(23), 0);
        due("2 in queue 3", x.count(24), 1);
    }

    private void addUnderAKey() {
        LoanRounds x = new LoanRounds();
        x.add(0, 0, NONE, 7, 0);
        due("2 waiting holds the key", x.add(0, 3, 2, 7, 9), 0);
        due("2 nothing came", x.count(1), 1);
        due("2 other queue", x.add(1, 0, NONE, 7, 0), 1);
        due("2 other key", x.add(0, 0, NONE, 8, 0), 2);
        due("2 no key", x.add(0, 0, NONE, 0, 0), 3);
        due("2 no key again", x.add(0, 0, NONE, 0, 0), 4);
        due("2 lend", x.lend(0, 0), 0);
        due("2 lent", x.task(0, STATE), LENT);
        due("2 lent holds the key", x.add(0, 0, NONE, 7, 0), 0);
        x.cancel(0);
        due("2 gone frees the key", x.add(0, 0, NONE, 7, 0), 5);
    }

    private void addForgetsTheDead() {
        LoanRounds x = new LoanRounds();
        x.set(MOST, 0, 1);
        x.set(MEMORY, 0, 1000);
        x.add(0, 0, NONE, 7, 0);
        x.end(x.lend(0, 0), FAILED);
        due("2 dead frees the key", x.add(0, 0, NONE, 7, 0), 1);
        due("2 revived beside it", x.revive(0), true);
        due("2 the greatest of several", x.add(0, 0, NONE, 7, 0), 1);
        x.cancel(1);
        due("2 the one that is left", x.add(0, 0, NONE, 7, 0), 0);
    }

    // ---- promise 3

    private void lendTheFirst() {
        LoanRounds x = new LoanRounds();
        x.set(LOAN, 2, 200);
        x.tick(4);
        x.add(2, 0, NONE, 0, 0);
        x.add(2, 1, 3, 0, 0);
        due("3 first token", x.lend(7, 2), 0);
        due("3 state", x.task(1, STATE), LENT);
        due("3 tries", x.task(1, TRIES), 1);
        due("3 end", x.task(1, END), 204);
        due("3 worker", x.task(1, WORKER), 7);
        due("3 token", x.task(1, TOKEN), 0);
        due("3 the other waits", x.task(0, STATE), WAITING);
        due("3 second token", x.lend(0, 2), 1);
        due("3 token 1", x.task(0, TOKEN), 1);
        due("3 nothing left", x.lend(0, 2), NONE);
        due("3 other queue", x.lend(0, 0), NONE);
        x.end(1, BACK);
        due("3 a lend without a task takes no token", x.lend(0, 2), 2);
        due("3 tries after coming back", x.task(0, TRIES), 1);
    }

    // ---- promise 4

    private void beatMovesTheEnd() {
        LoanRounds x = new LoanRounds();
        plain(x);
        x.add(1, 0, NONE, 0, 0);
        x.lend(0, 0);
        x.lend(0, 1);
        x.tick(4);
        due("4 beat", x.beat(0), true);
        due("4 end", x.task(0, END), 14);
        due("4 the other's end", x.task(1, END), 10);
        x.set(LOAN, 0, 2);
        due("4 end stays when LOAN is set", x.task(0, END), 14);
        due("4 beat again", x.beat(0), true);
        due("4 end may come nearer", x.task(0, END), 6);
        due("4 tries stay", x.task(0, TRIES), 1);
    }

    // ---- promise 5

    private void endThreeWays() {
        LoanRounds x = new LoanRounds();
        x.set(BASE, 0, 3);
        for (int i = 0; i < 3; i++) x.add(0, 0, i, 0, 0);
        for (int i = 0; i < 3; i++) x.lend(0, 0);
        x.tick(2);
        due("5 done", x.end(0, DONE_SO), 0);
        due("5 failed", x.end(1, FAILED), 1);
        due("5 back", x.end(2, BACK), 2);
        due("5 done state", x.task(0, STATE), DONE);
        due("5 done tries", x.task(0, TRIES), 1);
        due("5 failed state", x.task(1, STATE), WAITING);
        due("5 failed tries", x.task(1, TRIES), 1);
        due("5 failed due", x.task(1, DUE), 5);
        due("5 back state", x.task(2, STATE), WAITING);
        due("5 back tries", x.task(2, TRIES), 0);
        due("5 back due", x.task(2, DUE), 2);
        due("5 no loans", x.count(3), 0);
        due("5 worker", x.count(5), 0);
        for (int g = 0; g < 3; g++) due("5 group " + g, x.count(13 + g), 0);
    }

    private void backNeverDies() {
        LoanRounds x = new LoanRounds();
        x.set(MOST, 0, 1);
        plain(x);
        for (int i = 0; i < 30; i++) {
            due("5 lend again", x.lend(0, 0), i);
            due("5 one try", x.task(0, TRIES), 1);
            x.end(i, BACK);
        }
        due("5 no tries", x.task(0, TRIES), 0);
        due("5 waiting", x.task(0, STATE), WAITING);
    }

    // ---- promise 6

    private void tickRunsLoansOut() {
        LoanRounds x = new LoanRounds();
        x.set(LOAN, 1, 3);
        x.set(BASE, 1, 5);
        plain(x);
        x.add(1, 0, 4, 0, 0);
        x.add(1, 0, 4, 0, 0);
        x.lend(0, 0);
        x.lend(0, 1);
        x.lend(0, 1);
        due("6 not yet", x.tick(2), 0);
        due("6 lent yet", x.count(3), 3);
        due("6 at the END", x.tick(1), 2);
        due("6 due from the END", x.task(1, DUE), 8);
        due("6 group is free", x.count(17), 0);
        due("6 worker has one", x.count(5), 1);
        due("6 token is over", x.beat(1), false);
        due("6 the long one", x.tick(1000), 1);
        due("6 due from its own END", x.task(0, DUE), 11);
        due("6 time", x.count(0), 1003);
    }

    private void tickTakesEachAtItsEnd() {
        LoanRounds x = new LoanRounds();
        for (int i = 0; i < 3; i++) {
            x.add(i, 0, NONE, 0, 0);
            x.set(LOAN, i, 10 * (3 - i));
            x.lend(i, i);
        }
        x.set(MOST, 1, 1);
        due("6 all three", x.tick(30), 3);
        due("6 end at 30", x.task(0, DUE), 31);
        due("6 end at 20, dead", x.task(1, STATE), DEAD);
        due("6 end at 10", x.task(2, DUE), 11);
        due("6 dead ones", x.count(4), 1);
    }

    // ---- promise 7

    private void cancelLiveOnes() {
        LoanRounds x = new LoanRounds();
        x.set(MOST, 1, 1);
        x.add(0, 0, 6, 0, 0);
        x.add(0, 0, 6, 0, 0);
        x.add(1, 0, NONE, 0, 0);
        x.add(2, 0, NONE, 0, 0);
        x.lend(0, 0);
        x.end(x.lend(0, 1), FAILED);
        x.end(x.lend(0, 2), DONE_SO);
        due("7 lent", x.cancel(0), true);
        due("7 gone", x.task(0, STATE), GONE);
        due("7 group is free", x.count(19), 0);
        due("7 worker is free", x.count(5), 0);
        due("7 token is over", x.beat(0), false);
        due("7 no END", x.task(0, END), NONE);
        due("7 waiting", x.cancel(1), true);
        due("7 gone too", x.task(1, STATE), GONE);
        due("7 dead", x.cancel(2), false);
        due("7 dead stays", x.task(2, STATE), DEAD);
        due("7 done", x.cancel(3), false);
        due("7 done stays", x.task(3, STATE), DONE);
        due("7 gone already", x.cancel(0), false);
        due("7 none is live", x.count(2), 0);
        due("7 nothing runs out", x.tick(100), 0);
    }

    // ---- promise 8

    private void reviveDeadOnes() {
        LoanRounds x = new LoanRounds();
        x.set(MOST, 0, 1);
        x.add(0, 0, NONE, 7, 0);
        due("8 waiting", x.revive(0), false);
        x.lend(0, 0);
        due("8 lent", x.revive(0), false);
        x.end(0, FAILED);
        x.tick(9);
        due("8 the key comes anew", x.add(0, 0, NONE, 7, 0), 1);
        due("8 dead", x.revive(0), true);
        due("8 state", x.task(0, STATE), WAITING);
        due("8 due", x.task(0, DUE), 9);
        due("8 tries", x.task(0, TRIES), 0);
        due("8 none dead", x.count(4), 0);
        due("8 revived already", x.revive(0), false);
        x.lend(0, 0);
        due("8 one try again", x.task(0, TRIES), 1);
        x.end(1, DONE_SO);
        due("8 done", x.revive(0), false);
        x.cancel(1);
        due("8 gone", x.revive(1), false);
    }

    // ---- promise 9

    private void setChangesJustThatOne() {
        LoanRounds x = new LoanRounds();
        x.set(LOAN, 1, 20);
        x.set(LOAN, 1, 201);
        x.set(LOAN, 1, 0);
        for (int q = 0; q < 4; q++) {
            x.add(q, 0, NONE, 0, 0);
            x.lend(q, q);
            due("9 loan of " + q, x.task(q, END), q == 1 ? 20 : 10);
        }
        x.set(LOAN, 1, 50);
        due("9 END stays", x.task(1, END), 20);
    }

    private void setLimit() {
        LoanRounds x = new LoanRounds();
        for (int i = 0; i < 4; i++) x.add(i, 0, 5, 0, 0);
        x.add(0, 0, NONE, 0, 0);
        x.add(0, 0, 4, 0, 0);
        x.set(LIMIT, 5, 2);
        x.lend(0, 0);
        x.lend(0, 1);
        due("9 limit from any queue", x.first(2), NONE);
        due("9 limit holds a lend", x.lend(0, 2), NONE);
        due("9 without a group", x.first(0), 4);
        due("9 limit of another group", x.lend(0, 0) + x.lend(0, 0), 5);
        x.set(LIMIT, 5, 3);
        due("9 limit raised", x.first(2), 2);
        x.set(LIMIT, 5, 1);
        due("9 the lent stay", x.count(18), 2);
        x.end(0, DONE_SO);
        due("9 one is lent yet", x.first(2), NONE);
        x.end(1, DONE_SO);
        due("9 none is lent", x.first(2), 2);
        x.set(LIMIT, 5, 0);
        due("9 limit 0", x.first(2), NONE);
        due("9 weight all the same", x.task(2, WEIGHT), 0);
    }

    // ---- promise 10

    private void taskTells() {
        LoanRounds x = new LoanRounds();
        x.set(MOST, 1, 1);
        x.add(0, 2, NONE, 0, 3);
        int[] coming = {WAITING, 0, 3, NONE, NONE, NONE, NONE};
        tells(x, 0, coming);
        x.tick(3);
        int[] waiting = {WAITING, 0, 3, NONE, NONE, NONE, 2};
        tells(x, 0, waiting);
        x.lend(5, 0);
        int[] lent = {LENT, 1, NONE, 13, 5, 0, NONE};
        tells(x, 0, lent);
        x.end(0, DONE_SO);
        int[] done = {DONE, 1, NONE, NONE, NONE, NONE, NONE};
        tells(x, 0, done);
        x.add(1, 1, NONE, 0, 0);
        x.end(x.lend(6, 1), FAILED);
        int[] dead = {DEAD, 1, NONE, NONE, NONE, NONE, NONE};
        tells(x, 1, dead);
        plain(x);
        x.cancel(2);
        int[] gone = {GONE, 0, NONE, NONE, NONE, NONE, NONE};
        tells(x, 2, gone);
    }

    private void tells(LoanRounds x, int task, int[] want) {
        for (int what = 0; what < want.length; what++) {
            due("10 what " + what + " of " + task, x.task(task, what), want[what]);
        }
    }

    private void weightGrows() {
        LoanRounds x = new LoanRounds();
        x.set(GROWTH, 0, 3);
        x.add(0, 1, NONE, 0, 2);
        x.tick(2);
        int[] weights = {1, 1, 1, 2, 2, 2, 3};
        for (int weight : weights) {
            due("10 weight", x.task(0, WEIGHT), weight);
            x.tick(1);
        }
        x.set(GROWTH, 0, 0);
        due("10 without growth", x.task(0, WEIGHT), 1);
        x.set(GROWTH, 0, 1);
        due("10 by each tick", x.task(0, WEIGHT), 8);
        x.tick(1);
        due("10 nine", x.task(0, WEIGHT), 9);
        x.tick(1);
        due("10 nine at most", x.task(0, WEIGHT), 9);
        x.tick(1000);
        due("10 nine for ever", x.task(0, WEIGHT), 9);
        x.end(x.lend(0, 0), BACK);
        due("10 from the new DUE on", x.task(0, WEIGHT), 1);
    }

    // ---- promise 11

    private void firstOfAQueue() {
        LoanRounds x = new LoanRounds();
        x.add(0, 1, NONE, 0, 1);
        x.add(0, 1, NONE, 0, 0);
        x.add(0, 1, NONE, 0, 0);
        x.add(0, 2, NONE, 0, 3);
        x.add(1, 3, NONE, 0, 0);
        due("11 least number", x.first(0), 1);
        due("11 it stays", x.first(0), 1);
        due("11 waiting yet", x.task(1, STATE), WAITING);
        x.tick(2);
        due("11 least due", x.first(0), 1);
        x.cancel(1);
        due("11 next due 0", x.first(0), 2);
        x.cancel(2);
        due("11 due 1", x.first(0), 0);
        x.tick(1);
        due("11 greatest weight", x.first(0), 3);
        due("11 other queue", x.first(1), 4);
    }

    private void firstByGrownWeight() {
        LoanRounds x = new LoanRounds();
        x.set(GROWTH, 0, 2);
        x.add(0, 0, NONE, 0, 0);
        x.tick(4);
        x.add(0, 3, NONE, 0, 0);
        due("11 rank above growth", x.first(0), 1);
        x.set(GROWTH, 0, 1);
        due("11 growth above rank", x.first(0), 0);
        x.tick(1000);
        due("11 both 9: least due", x.first(0), 0);
        x.end(x.lend(0, 0), BACK);
        due("11 the one that waits longer", x.first(0), 1);
    }

    // ---- promise 12

    private void nextTime() {
        LoanRounds x = new LoanRounds();
        plain(x);
        due("12 due now is not above", x.next(), NONE);
        x.add(1, 0, NONE, 0, 30);
        due("12 a DUE", x.next(), 30);
        x.lend(0, 0);
        due("12 an END", x.next(), 10);
        x.add(1, 0, NONE, 0, 5);
        due("12 the least", x.next(), 5);
        x.tick(5);
        due("12 the DUE came", x.next(), 10);
        x.beat(0);
        due("12 the END moved", x.next(), 15);
        x.cancel(0);
        due("12 gone has no END", x.next(), 30);
        x.cancel(1);
        due("12 gone has no DUE", x.next(), NONE);
        x.lend(0, 1);
        x.end(1, DONE_SO);
        due("12 done has none", x.next(), NONE);
        x.set(LIMIT, 0, 0);
        x.add(0, 0, 0, 0, 7);
        due("12 a limit does not matter", x.next(), 12);
    }

    // ---- promise 13

    private void counts() {
        LoanRounds x = new LoanRounds();
        x.set(MOST, 3, 1);
        for (int i = 0; i < 8; i++) {
            x.add(0, 0, i, 0, 0);
            x.lend(i, 0);
        }
        for (int i = 0; i < 4; i++) {
            for (int k = 0; k <= i; k++) x.add(i, 0, NONE, 0, 0);
        }
        x.tick(2);
        x.end(x.lend(0, 3), FAILED);
        x.end(0, DONE_SO);
        x.add(0, 1, 1, 0, 0);
        x.lend(7, 0);
        int[] want = {2, 19, 17, 8, 1, 0, 1, 1, 1, 1, 1, 1, 2, 0, 2, 1, 1, 1, 1, 1, 1, 1, 2, 3, 3};
        for (int what = 0; what < want.length; what++) due("13 count " + what, x.count(what), want[what]);
    }

    private void run() {
        objectsAreApart();
        addNumbersAndDues();
        addUnderAKey();
        addForgetsTheDead();
        lendTheFirst();
        beatMovesTheEnd();
        endThreeWays();
        backNeverDies();
        tickRunsLoansOut();
        tickTakesEachAtItsEnd();
        cancelLiveOnes();
        reviveDeadOnes();
        setChangesJustThatOne();
        setLimit();
        taskTells();
        weightGrows();
        firstOfAQueue();
        firstByGrownWeight();
        nextTime();
        counts();
        close();
    }

    public static void main(String[] args) {
        new PromisesTest().run();
    }
}
