import java.util.NoSuchElementException;

/** For each promise of the document: ordinary inputs, the edges that it names, and wrong inputs. */
public final class PromisesTest {
    private static final int NONE = LoanRounds.NONE;
    private static final int LOAN = 0, MOST = 1, BASE = 2, TOP = 3, GROWTH = 4, MEMORY = 5, LIMIT = 6;
    private static final int STATE = 0, TRIES = 1, DUE = 2, END = 3, WORKER = 4, TOKEN = 5, WEIGHT = 6;
    private static final int WAITING = 0, LENT = 1, DONE = 2, DEAD = 3, GONE = 4;
    private static final int DONE_SO = 0, FAILED = 1, BACK = 2;
    private static final int[] FAR = {Integer.MIN_VALUE, -1000, -2, 401, 1001, Integer.MAX_VALUE};

    private static final Checks CHECKS = new Checks("PromisesTest");

    private static void due(String what, long got, long want) {
        CHECKS.due(what, got, want);
    }

    private static void due(String what, boolean got, boolean want) {
        CHECKS.due(what, got, want);
    }

    private static void refused(String what, Checks.Call call) {
        CHECKS.throwsDue(what, IllegalArgumentException.class, call);
    }

    private static void noRoom(String what, Checks.Call call) {
        CHECKS.throwsDue(what, IllegalStateException.class, call);
    }

    private static void noSuch(String what, Checks.Call call) {
        CHECKS.throwsDue(what, NoSuchElementException.class, call);
    }

    private static int plain(LoanRounds x) {
        return x.add(0, 0, NONE, 0, 0);
    }

    private static LoanRounds full() {
        LoanRounds x = new LoanRounds();
        for (int i = 0; i < 64; i++) due("the task " + i + " comes", x.add(i % 4, 0, NONE, i + 1, 0), i);
        return x;
    }

    // ---- promise 1

    private static void nothingIsThereAtFirst() {
        LoanRounds x = new LoanRounds();
        for (int what = 0; what <= 24; what++) due("1 count " + what, x.count(what), 0);
        for (int q = 0; q < 4; q++) due("1 first " + q, x.first(q), NONE);
        for (int q = 0; q < 4; q++) due("1 lend of " + q, x.lend(0, q), NONE);
        due("1 next", x.next(), NONE);
        due("1 beat", x.beat(0), false);
        due("1 cancel", x.cancel(0), false);
        due("1 revive", x.revive(0), false);
        noSuch("1 task", () -> x.task(0, STATE));
        noSuch("1 end", () -> x.end(0, DONE_SO));
        due("1 tick", x.tick(1000), 0);
    }

    private static void objectsAreApart() {
        LoanRounds x = new LoanRounds();
        LoanRounds y = new LoanRounds();
        x.set(LOAN, 0, 3);
        x.set(LIMIT, 0, 0);
        x.tick(5);
        plain(x);
        due("1 other count", y.count(1), 0);
        due("1 other time", y.count(0), 0);
        y.add(0, 0, 0, 0, 0);
        due("1 other limit", y.lend(0, 0), 0);
        due("1 other loan", y.task(0, END), 10);
    }

    private static void settingsAtFirst() {
        LoanRounds x = new LoanRounds();
        x.add(1, 2, NONE, 4, 0);
        due("1 growth 0", x.task(0, WEIGHT), 2);
        x.tick(1000);
        due("1 growth still 0", x.task(0, WEIGHT), 2);
        int wait = 1;
        for (int tries = 1; tries <= 4; tries++) {
            int token = x.lend(0, 1);
            due("1 loan 10", x.task(0, END), x.count(0) + 10);
            x.end(token, FAILED);
            due("1 base 1", x.task(0, DUE), x.count(0) + wait);
            x.tick(wait);
            wait *= 2;
        }
        x.end(x.lend(0, 1), FAILED);
        due("1 most 5", x.task(0, STATE), DEAD);

        LoanRounds y = new LoanRounds();
        y.set(BASE, 0, 100);
        plain(y);
        y.end(y.lend(0, 0), FAILED);
        due("1 top 60", y.task(0, DUE), 60);
    }

    // ---- promise 2

    private static void addNumbersAndDues() {
        LoanRounds x = new LoanRounds();
        due("2 first number", x.add(0, 0, NONE, 0, 0), 0);
        due("2 second number", x.add(3, 3, 7, 9, 1000), 1);
        x.tick(7);
        due("2 third number", x.add(1, 1, 0, -9, 5), 2);
        due("2 due now", x.task(0, DUE), 0);
        due("2 due after 1000", x.task(1, DUE), 1000);
        due("2 due from time", x.task(2, DUE), 12);
        for (int i = 0; i < 3; i++) {
            due("2 waiting", x.task(i, STATE), WAITING);
            due("2 no tries", x.task(i, TRIES), 0);
        }
        due("2 in queue 0", x.count(21), 1);
        due("2 in queue 1", x.count(22), 1);
        due("2 in queue 2", x.count(23), 0);
        due("2 in queue 3", x.count(24), 1);
    }

    private static void addRefuses() {
        LoanRounds x = new LoanRounds();
        x.add(0, 0, NONE, 5, 0);
        for (int bad : FAR) {
            refused("2 queue " + bad, () -> x.add(bad, 0, NONE, 5, 0));
            refused("2 rank " + bad, () -> x.add(0, bad, NONE, 5, 0));
            refused("2 group " + bad, () -> x.add(0, 0, bad, 5, 0));
        }
        refused("2 queue -1", () -> x.add(-1, 0, NONE, 5, 0));
        refused("2 queue 4", () -> x.add(4, 0, NONE, 5, 0));
        refused("2 rank -1", () -> x.add(0, -1, NONE, 5, 0));
        refused("2 rank 4", () -> x.add(0, 4, NONE, 5, 0));
        refused("2 group -2", () -> x.add(0, 0, -2, 5, 0));
        refused("2 group 8", () -> x.add(0, 0, 8, 5, 0));
        refused("2 delay -1", () -> x.add(0, 0, NONE, 5, -1));
        refused("2 delay 1001", () -> x.add(0, 0, NONE, 5, 1001));
        refused("2 least delay", () -> x.add(0, 0, NONE, 5, Integer.MIN_VALUE));
        refused("2 greatest delay", () -> x.add(0, 0, NONE, 5, Integer.MAX_VALUE));
        due("2 nothing came", x.count(1), 1);
    }

    private static void addUnderAKey() {
        LoanRounds x = new LoanRounds();
        x.add(0, 0, NONE, 7, 0);
        due("2 waiting holds the key", x.add(0, 3, 2, 7, 9), 0);
        due("2 nothing came", x.count(1), 1);
        due("2 other queue", x.add(1, 0, NONE, 7, 0), 1);
        due("2 other key", x.add(0, 0, NONE, 8, 0), 2);
        due("2 key of 64 bits", x.add(0, 0, NONE, 7 + (1L << 32), 0), 3);
        due("2 least key", x.add(0, 0, NONE, Long.MIN_VALUE, 0), 4);
        due("2 least key again", x.add(0, 0, NONE, Long.MIN_VALUE, 0), 4);
        due("2 no key", x.add(0, 0, NONE, 0, 0), 5);
        due("2 no key again", x.add(0, 0, NONE, 0, 0), 6);
        due("2 lend", x.lend(0, 0), 0);
        due("2 lent", x.task(0, STATE), LENT);
        due("2 lent holds the key", x.add(0, 0, NONE, 7, 0), 0);
        x.cancel(0);
        due("2 gone frees the key", x.add(0, 0, NONE, 7, 0), 7);
    }

    private static void addRemembersTheDone() {
        LoanRounds x = new LoanRounds();
        x.add(0, 0, NONE, 7, 0);
        x.end(x.lend(0, 0), DONE_SO);
        due("2 0 ticks ago is not more than 0", x.add(0, 0, NONE, 7, 0), 0);
        x.tick(1);
        due("2 1 tick ago is more than 0", x.add(0, 0, NONE, 7, 0), 1);

        LoanRounds y = new LoanRounds();
        y.set(MEMORY, 2, 1000);
        y.add(2, 0, NONE, 7, 0);
        y.tick(3);
        y.end(y.lend(0, 2), DONE_SO);
        y.tick(1000);
        due("2 1000 ticks ago", y.add(2, 0, NONE, 7, 0), 0);
        y.set(MEMORY, 2, 999);
        due("2 memory as it is now", y.add(2, 0, NONE, 7, 0), 1);
        y.cancel(1);
        y.set(MEMORY, 2, 1000);
        due("2 gone is not done", y.add(2, 0, NONE, 7, 0), 0);
        y.tick(1);
        due("2 1001 ticks ago", y.add(2, 0, NONE, 7, 0), 2);
    }

    private static void addForgetsTheDead() {
        LoanRounds x = new LoanRounds();
        x.set(MOST, 0, 1);
        x.set(MEMORY, 0, 1000);
        x.add(0, 0, NONE, 7, 0);
        x.end(x.lend(0, 0), FAILED);
        due("2 dead frees the key", x.add(0, 0, NONE, 7, 0), 1);
        due("2 revived beside it", x.revive(0), true);
        due("2 the greatest of several", x.add(0, 0, NONE, 7, 0), 1);
        x.cancel(1);
        due("2 the one that is left", x.add(0, 0, NONE, 7, 0), 0);
    }

    private static void addTellsTheGreatestOfLiveAndDone() {
        LoanRounds x = new LoanRounds();
        x.set(MOST, 0, 1);
        x.set(MEMORY, 0, 10);
        x.add(0, 0, NONE, 7, 0);
        x.end(x.lend(0, 0), FAILED);
        x.add(0, 3, NONE, 7, 0);
        x.revive(0);
        due("2 the done one is 1", x.end(x.lend(0, 0), DONE_SO), 1);
        due("2 done above live", x.add(0, 0, NONE, 7, 0), 1);
        x.tick(11);
        due("2 live when the done is forgotten", x.add(0, 0, NONE, 7, 0), 0);
    }

    private static void addHasRoomFor64() {
        LoanRounds x = full();
        noRoom("2 64 are live", () -> x.add(0, 0, NONE, 0, 0));
        noRoom("2 64 are live, new key", () -> x.add(0, 0, NONE, 1000, 0));
        refused("2 wrong where there is no room", () -> x.add(4, 0, NONE, 0, 0));
        due("2 known where there is no room", x.add(3, 0, NONE, 64, 0), 63);
        due("2 came", x.count(1), 64);
        x.lend(0, 0);
        noRoom("2 lent ones are live", () -> x.add(0, 0, NONE, 0, 0));
        x.cancel(5);
        due("2 room again", plain(x), 64);
        noRoom("2 64 once more", () -> x.add(0, 0, NONE, 0, 0));
    }

    // Beyond 512 calls answers are free, but the limit is one of the document's own, so it is kept there too.
    private static void addTakes400() {
        LoanRounds x = new LoanRounds();
        for (int i = 0; i < 400; i++) {
            due("2 number", x.add(0, 0, NONE, i == 399 ? 5 : 0, 0), i);
            if (i < 399) x.cancel(i);
        }
        noRoom("2 400 came", () -> x.add(0, 0, NONE, 0, 0));
        due("2 known after 400", x.add(0, 0, NONE, 5, 0), 399);
        due("2 400 tasks", x.count(1), 400);
    }

    // ---- promise 3

    private static void lendTheFirst() {
        LoanRounds x = new LoanRounds();
        x.set(LOAN, 2, 200);
        x.tick(4);
        x.add(2, 0, NONE, 0, 0);
        x.add(2, 1, 3, 0, 0);
        due("3 first token", x.lend(7, 2), 0);
        due("3 state", x.task(1, STATE), LENT);
        due("3 tries", x.task(1, TRIES), 1);
        due("3 end", x.task(1, END), 204);
        due("3 worker", x.task(1, WORKER), 7);
        due("3 token", x.task(1, TOKEN), 0);
        due("3 the other waits", x.task(0, STATE), WAITING);
        due("3 second token", x.lend(0, 2), 1);
        due("3 token 1", x.task(0, TOKEN), 1);
        due("3 nothing left", x.lend(0, 2), NONE);
        due("3 other queue", x.lend(0, 0), NONE);
        x.end(1, BACK);
        due("3 a lend without a task takes no token", x.lend(0, 2), 2);
        due("3 tries after coming back", x.task(0, TRIES), 1);
    }

    private static void lendAtMostFour() {
        LoanRounds x = new LoanRounds();
        for (int i = 0; i < 8; i++) x.add(i % 4, 0, NONE, 0, 0);
        for (int i = 0; i < 4; i++) due("3 token", x.lend(3, i), i);
        due("3 worker has 4", x.lend(3, 0), NONE);
        due("3 nothing changed", x.count(3), 4);
        due("3 another worker", x.lend(4, 0), 4);
        due("3 a loan ends", x.end(2, DONE_SO), 2);
        due("3 worker has 3", x.lend(3, 1), 5);
        due("3 worker has 4 again", x.lend(3, 2), NONE);
        due("3 cancel", x.cancel(5), true);
        due("3 worker has 3 again", x.lend(3, 2), 6);
        due("3 worker count", x.count(8), 4);
    }

    private static void lendRefuses() {
        LoanRounds x = new LoanRounds();
        plain(x);
        for (int bad : FAR) {
            refused("3 worker " + bad, () -> x.lend(bad, 0));
            refused("3 queue " + bad, () -> x.lend(0, bad));
        }
        refused("3 worker -1", () -> x.lend(-1, 0));
        refused("3 worker 8", () -> x.lend(8, 0));
        refused("3 queue -1", () -> x.lend(0, -1));
        refused("3 queue 4", () -> x.lend(0, 4));
        due("3 nothing lent", x.count(3), 0);
        due("3 worker 7", x.lend(7, 0), 0);
    }

    // ---- promise 4

    private static void beatMovesTheEnd() {
        LoanRounds x = new LoanRounds();
        plain(x);
        x.add(1, 0, NONE, 0, 0);
        x.lend(0, 0);
        x.lend(0, 1);
        x.tick(4);
        due("4 beat", x.beat(0), true);
        due("4 end", x.task(0, END), 14);
        due("4 the other's end", x.task(1, END), 10);
        x.set(LOAN, 0, 2);
        due("4 end stays when LOAN is set", x.task(0, END), 14);
        due("4 beat again", x.beat(0), true);
        due("4 end may come nearer", x.task(0, END), 6);
        due("4 tries stay", x.task(0, TRIES), 1);
        for (int bad : FAR) due("4 token " + bad, x.beat(bad), false);
        due("4 token -1", x.beat(-1), false);
        due("4 token 2", x.beat(2), false);
    }

    private static void beatOnlyWhileLent() {
        LoanRounds x = new LoanRounds();
        for (int i = 0; i < 4; i++) x.add(0, 0, NONE, 0, 0);
        for (int i = 0; i < 4; i++) x.lend(i, 0);
        x.end(0, DONE_SO);
        x.end(1, FAILED);
        x.cancel(2);
        for (int token = 0; token < 3; token++) due("4 token " + token, x.beat(token), false);
        due("4 ran out", x.tick(10), 1);
        due("4 token 3", x.beat(3), false);
        due("4 lent anew", x.lend(0, 0), 4);
        due("4 lent anew is 1", x.task(1, TOKEN), 4);
        due("4 the old token", x.beat(1), false);
        due("4 the new token", x.beat(4), true);
    }

    // ---- promise 5

    private static void endThreeWays() {
        LoanRounds x = new LoanRounds();
        x.set(BASE, 0, 3);
        for (int i = 0; i < 3; i++) x.add(0, 0, i, 0, 0);
        for (int i = 0; i < 3; i++) x.lend(0, 0);
        x.tick(2);
        due("5 done", x.end(0, DONE_SO), 0);
        due("5 failed", x.end(1, FAILED), 1);
        due("5 back", x.end(2, BACK), 2);
        due("5 done state", x.task(0, STATE), DONE);
        due("5 done tries", x.task(0, TRIES), 1);
        due("5 failed state", x.task(1, STATE), WAITING);
        due("5 failed tries", x.task(1, TRIES), 1);
        due("5 failed due", x.task(1, DUE), 5);
        due("5 back state", x.task(2, STATE), WAITING);
        due("5 back tries", x.task(2, TRIES), 0);
        due("5 back due", x.task(2, DUE), 2);
        due("5 no loans", x.count(3), 0);
        due("5 worker", x.count(5), 0);
        for (int g = 0; g < 3; g++) due("5 group " + g, x.count(13 + g), 0);
    }

    private static void endRefuses() {
        LoanRounds x = new LoanRounds();
        plain(x);
        x.lend(0, 0);
        for (int bad : FAR) {
            noSuch("5 token " + bad, () -> x.end(bad, DONE_SO));
            refused("5 how " + bad, () -> x.end(0, bad));
        }
        noSuch("5 token -1", () -> x.end(-1, DONE_SO));
        noSuch("5 token 1", () -> x.end(1, DONE_SO));
        noSuch("5 token before how", () -> x.end(1, 3));
        refused("5 how -1", () -> x.end(0, -1));
        refused("5 how 3", () -> x.end(0, 3));
        due("5 still lent", x.task(0, STATE), LENT);
        due("5 end", x.end(0, DONE_SO), 0);
        noSuch("5 ended already", () -> x.end(0, DONE_SO));
        noSuch("5 ended already, wrong how", () -> x.end(0, 7));
    }

    private static void waitsGrowToTheTop() {
        LoanRounds x = new LoanRounds();
        x.set(MOST, 3, 20);
        x.set(BASE, 3, 100);
        x.set(TOP, 3, 1000);
        x.add(3, 0, NONE, 0, 0);
        int[] waits = {100, 200, 400, 800, 1000};
        for (int tries = 1; tries <= 19; tries++) {
            x.end(x.lend(0, 3), FAILED);
            int wait = waits[Math.min(tries, waits.length) - 1];
            due("5 wait after " + tries, x.task(0, DUE) - x.count(0), wait);
            x.tick(wait);
        }
        due("5 the last try", x.lend(0, 3), 19);
        due("5 20 tries", x.task(0, TRIES), 20);
        x.end(19, FAILED);
        due("5 dead", x.task(0, STATE), DEAD);
        due("5 dead tries", x.task(0, TRIES), 20);
        due("5 dead ones", x.count(4), 1);
        due("5 dead due", x.task(0, DUE), NONE);
    }

    private static void triesMeetMostAsItIsNow() {
        LoanRounds x = new LoanRounds();
        plain(x);
        for (int tries = 1; tries <= 3; tries++) {
            x.lend(0, 0);
            if (tries < 3) {
                x.end(tries - 1, FAILED);
                x.tick(10);
            }
        }
        x.set(MOST, 0, 2);
        x.end(2, FAILED);
        due("5 more tries than MOST", x.task(0, STATE), DEAD);

        LoanRounds y = new LoanRounds();
        plain(y);
        y.lend(0, 0);
        y.set(BASE, 0, 50);
        y.set(TOP, 0, 7);
        y.end(0, FAILED);
        due("5 TOP below BASE", y.task(0, DUE), 7);
        y.set(TOP, 0, 1000);
        y.set(BASE, 0, 1);
        due("5 DUE stays", y.task(0, DUE), 7);
    }

    private static void backNeverDies() {
        LoanRounds x = new LoanRounds();
        x.set(MOST, 0, 1);
        plain(x);
        for (int i = 0; i < 30; i++) {
            due("5 lend again", x.lend(0, 0), i);
            due("5 one try", x.task(0, TRIES), 1);
            x.end(i, BACK);
        }
        due("5 no tries", x.task(0, TRIES), 0);
        due("5 waiting", x.task(0, STATE), WAITING);
    }

    // ---- promise 6

    private static void tickMovesTime() {
        LoanRounds x = new LoanRounds();
        due("6 one", x.tick(1), 0);
        due("6 thousand", x.tick(1000), 0);
        due("6 time", x.count(0), 1001);
        for (int bad : new int[] {Integer.MIN_VALUE, -1, 0, 1001, Integer.MAX_VALUE}) {
            refused("6 n " + bad, () -> x.tick(bad));
        }
        due("6 time stays", x.count(0), 1001);
    }

    private static void tickRunsLoansOut() {
        LoanRounds x = new LoanRounds();
        x.set(LOAN, 1, 3);
        x.set(BASE, 1, 5);
        plain(x);
        x.add(1, 0, 4, 0, 0);
        x.add(1, 0, 4, 0, 0);
        x.lend(0, 0);
        x.lend(0, 1);
        x.lend(0, 1);
        due("6 not yet", x.tick(2), 0);
        due("6 lent yet", x.count(3), 3);
        due("6 at the END", x.tick(1), 2);
        due("6 due from the END", x.task(1, DUE), 8);
        due("6 group is free", x.count(17), 0);
        due("6 worker has one", x.count(5), 1);
        due("6 token is over", x.beat(1), false);
        due("6 the long one", x.tick(1000), 1);
        due("6 due from its own END", x.task(0, DUE), 11);
        due("6 time", x.count(0), 1003);
    }

    private static void tickTakesEachAtItsEnd() {
        LoanRounds x = new LoanRounds();
        for (int i = 0; i < 3; i++) {
            x.add(i, 0, NONE, 0, 0);
            x.set(LOAN, i, 10 * (3 - i));
            x.lend(i, i);
        }
        x.set(MOST, 1, 1);
        due("6 all three", x.tick(30), 3);
        due("6 end at 30", x.task(0, DUE), 31);
        due("6 end at 20, dead", x.task(1, STATE), DEAD);
        due("6 end at 10", x.task(2, DUE), 11);
        due("6 dead ones", x.count(4), 1);
    }

    // ---- promise 7

    private static void cancelLiveOnes() {
        LoanRounds x = new LoanRounds();
        x.set(MOST, 1, 1);
        x.add(0, 0, 6, 0, 0);
        x.add(0, 0, 6, 0, 0);
        x.add(1, 0, NONE, 0, 0);
        x.add(2, 0, NONE, 0, 0);
        x.lend(0, 0);
        x.end(x.lend(0, 1), FAILED);
        x.end(x.lend(0, 2), DONE_SO);
        due("7 lent", x.cancel(0), true);
        due("7 gone", x.task(0, STATE), GONE);
        due("7 group is free", x.count(19), 0);
        due("7 worker is free", x.count(5), 0);
        due("7 token is over", x.beat(0), false);
        due("7 no END", x.task(0, END), NONE);
        due("7 waiting", x.cancel(1), true);
        due("7 gone too", x.task(1, STATE), GONE);
        due("7 dead", x.cancel(2), false);
        due("7 dead stays", x.task(2, STATE), DEAD);
        due("7 done", x.cancel(3), false);
        due("7 done stays", x.task(3, STATE), DONE);
        due("7 gone already", x.cancel(0), false);
        due("7 task -1", x.cancel(-1), false);
        due("7 task 4", x.cancel(4), false);
        for (int bad : FAR) due("7 task " + bad, x.cancel(bad), false);
        due("7 none is live", x.count(2), 0);
        due("7 nothing runs out", x.tick(100), 0);
    }

    // ---- promise 8

    private static void reviveDeadOnes() {
        LoanRounds x = new LoanRounds();
        x.set(MOST, 0, 1);
        x.add(0, 0, NONE, 7, 0);
        due("8 waiting", x.revive(0), false);
        x.lend(0, 0);
        due("8 lent", x.revive(0), false);
        x.end(0, FAILED);
        x.tick(9);
        due("8 the key comes anew", x.add(0, 0, NONE, 7, 0), 1);
        due("8 dead", x.revive(0), true);
        due("8 state", x.task(0, STATE), WAITING);
        due("8 due", x.task(0, DUE), 9);
        due("8 tries", x.task(0, TRIES), 0);
        due("8 none dead", x.count(4), 0);
        due("8 revived already", x.revive(0), false);
        x.lend(0, 0);
        due("8 one try again", x.task(0, TRIES), 1);
        x.end(1, DONE_SO);
        due("8 done", x.revive(0), false);
        x.cancel(1);
        due("8 gone", x.revive(1), false);
        due("8 task -1", x.revive(-1), false);
        due("8 task 2", x.revive(2), false);
        for (int bad : FAR) due("8 task " + bad, x.revive(bad), false);
    }

    private static void reviveNeedsRoom() {
        LoanRounds x = new LoanRounds();
        x.set(MOST, 0, 1);
        plain(x);
        x.end(x.lend(0, 0), FAILED);
        for (int i = 1; i <= 64; i++) plain(x);
        due("8 64 are live", x.revive(0), false);
        due("8 still dead", x.task(0, STATE), DEAD);
        x.cancel(64);
        due("8 63 are live", x.revive(0), true);
        due("8 64 are live again", x.count(2), 64);
    }

    // ---- promise 9

    private static void setWithinBounds() {
        int[] least = {1, 1, 1, 1, 0, 0, 0};
        int[] greatest = {200, 20, 100, 1000, 100, 1000, 8};
        LoanRounds x = new LoanRounds();
        for (int what = 0; what <= 6; what++) {
            int places = what == LIMIT ? 8 : 4;
            for (int which = 0; which < places; which++) {
                due("9 least of " + what, x.set(what, which, least[what]), true);
                due("9 greatest of " + what, x.set(what, which, greatest[what]), true);
                due("9 below least of " + what, x.set(what, which, least[what] - 1), false);
                due("9 above greatest of " + what, x.set(what, which, greatest[what] + 1), false);
            }
            due("9 which -1 of " + what, x.set(what, -1, 1), false);
            due("9 which " + places + " of " + what, x.set(what, places, 1), false);
            for (int bad : FAR) {
                due("9 which " + bad + " of " + what, x.set(what, bad, 1), false);
            }
            due("9 least int of " + what, x.set(what, 0, Integer.MIN_VALUE), false);
            due("9 greatest int of " + what, x.set(what, 0, Integer.MAX_VALUE), false);
        }
        due("9 what -1", x.set(-1, 0, 1), false);
        due("9 what 7", x.set(7, 0, 1), false);
        for (int bad : FAR) due("9 what " + bad, x.set(bad, 0, 1), false);
    }

    private static void setChangesJustThatOne() {
        LoanRounds x = new LoanRounds();
        x.set(LOAN, 1, 20);
        x.set(LOAN, 1, 201);
        x.set(LOAN, 1, 0);
        for (int q = 0; q < 4; q++) {
            x.add(q, 0, NONE, 0, 0);
            x.lend(q, q);
            due("9 loan of " + q, x.task(q, END), q == 1 ? 20 : 10);
        }
        x.set(LOAN, 1, 50);
        due("9 END stays", x.task(1, END), 20);
    }

    private static void setLimit() {
        LoanRounds x = new LoanRounds();
        for (int i = 0; i < 4; i++) x.add(i, 0, 5, 0, 0);
        x.add(0, 0, NONE, 0, 0);
        x.add(0, 0, 4, 0, 0);
        x.set(LIMIT, 5, 2);
        x.lend(0, 0);
        x.lend(0, 1);
        due("9 limit from any queue", x.first(2), NONE);
        due("9 limit holds a lend", x.lend(0, 2), NONE);
        due("9 without a group", x.first(0), 4);
        due("9 limit of another group", x.lend(0, 0) + x.lend(0, 0), 5);
        x.set(LIMIT, 5, 3);
        due("9 limit raised", x.first(2), 2);
        x.set(LIMIT, 5, 1);
        due("9 the lent stay", x.count(18), 2);
        x.end(0, DONE_SO);
        due("9 one is lent yet", x.first(2), NONE);
        x.end(1, DONE_SO);
        due("9 none is lent", x.first(2), 2);
        x.set(LIMIT, 5, 0);
        due("9 limit 0", x.first(2), NONE);
        due("9 weight all the same", x.task(2, WEIGHT), 0);
    }

    private static void limitIsEightAtFirst() {
        LoanRounds x = new LoanRounds();
        for (int i = 0; i < 9; i++) x.add(0, 0, 7, 0, 0);
        for (int i = 0; i < 8; i++) due("9 lend", x.lend(i / 4, 0), i);
        due("9 the ninth", x.lend(2, 0), NONE);
        due("9 eight lent", x.count(20), 8);
    }

    // ---- promise 10

    private static void taskTells() {
        LoanRounds x = new LoanRounds();
        x.set(MOST, 1, 1);
        x.add(0, 2, NONE, 0, 3);
        int[] coming = {WAITING, 0, 3, NONE, NONE, NONE, NONE};
        tells(x, 0, coming);
        x.tick(3);
        int[] waiting = {WAITING, 0, 3, NONE, NONE, NONE, 2};
        tells(x, 0, waiting);
        x.lend(5, 0);
        int[] lent = {LENT, 1, NONE, 13, 5, 0, NONE};
        tells(x, 0, lent);
        x.end(0, DONE_SO);
        int[] done = {DONE, 1, NONE, NONE, NONE, NONE, NONE};
        tells(x, 0, done);
        x.add(1, 1, NONE, 0, 0);
        x.end(x.lend(6, 1), FAILED);
        int[] dead = {DEAD, 1, NONE, NONE, NONE, NONE, NONE};
        tells(x, 1, dead);
        plain(x);
        x.cancel(2);
        int[] gone = {GONE, 0, NONE, NONE, NONE, NONE, NONE};
        tells(x, 2, gone);
        for (int bad : FAR) {
            noSuch("10 task " + bad, () -> x.task(bad, STATE));
            noSuch("10 what " + bad, () -> x.task(0, bad));
        }
        noSuch("10 task -1", () -> x.task(-1, STATE));
        noSuch("10 task 3", () -> x.task(3, STATE));
        noSuch("10 what -1", () -> x.task(0, -1));
        noSuch("10 what 7", () -> x.task(0, 7));
    }

    private static void tells(LoanRounds x, int task, int[] want) {
        for (int what = 0; what < want.length; what++) {
            due("10 what " + what + " of " + task, x.task(task, what), want[what]);
        }
    }

    private static void weightGrows() {
        LoanRounds x = new LoanRounds();
        x.set(GROWTH, 0, 3);
        x.add(0, 1, NONE, 0, 2);
        x.tick(2);
        int[] weights = {1, 1, 1, 2, 2, 2, 3};
        for (int weight : weights) {
            due("10 weight", x.task(0, WEIGHT), weight);
            x.tick(1);
        }
        x.set(GROWTH, 0, 0);
        due("10 without growth", x.task(0, WEIGHT), 1);
        x.set(GROWTH, 0, 1);
        due("10 by each tick", x.task(0, WEIGHT), 8);
        x.tick(1);
        due("10 nine", x.task(0, WEIGHT), 9);
        x.tick(1);
        due("10 nine at most", x.task(0, WEIGHT), 9);
        x.tick(1000);
        due("10 nine for ever", x.task(0, WEIGHT), 9);
        x.end(x.lend(0, 0), BACK);
        due("10 from the new DUE on", x.task(0, WEIGHT), 1);
    }

    // ---- promise 11

    private static void firstOfAQueue() {
        LoanRounds x = new LoanRounds();
        x.add(0, 1, NONE, 0, 1);
        x.add(0, 1, NONE, 0, 0);
        x.add(0, 1, NONE, 0, 0);
        x.add(0, 2, NONE, 0, 3);
        x.add(1, 3, NONE, 0, 0);
        due("11 least number", x.first(0), 1);
        due("11 it stays", x.first(0), 1);
        due("11 waiting yet", x.task(1, STATE), WAITING);
        x.tick(2);
        due("11 least due", x.first(0), 1);
        x.cancel(1);
        due("11 next due 0", x.first(0), 2);
        x.cancel(2);
        due("11 due 1", x.first(0), 0);
        x.tick(1);
        due("11 greatest weight", x.first(0), 3);
        due("11 other queue", x.first(1), 4);
        due("11 empty queue", x.first(2), NONE);
        due("11 queue -1", x.first(-1), NONE);
        due("11 queue 4", x.first(4), NONE);
        for (int bad : FAR) due("11 queue " + bad, x.first(bad), NONE);
    }

    private static void firstByGrownWeight() {
        LoanRounds x = new LoanRounds();
        x.set(GROWTH, 0, 2);
        x.add(0, 0, NONE, 0, 0);
        x.tick(4);
        x.add(0, 3, NONE, 0, 0);
        due("11 rank above growth", x.first(0), 1);
        x.set(GROWTH, 0, 1);
        due("11 growth above rank", x.first(0), 0);
        x.tick(1000);
        due("11 both 9: least due", x.first(0), 0);
        x.end(x.lend(0, 0), BACK);
        due("11 the one that waits longer", x.first(0), 1);
    }

    // ---- promise 12

    private static void nextTime() {
        LoanRounds x = new LoanRounds();
        plain(x);
        due("12 due now is not above", x.next(), NONE);
        x.add(1, 0, NONE, 0, 30);
        due("12 a DUE", x.next(), 30);
        x.lend(0, 0);
        due("12 an END", x.next(), 10);
        x.add(1, 0, NONE, 0, 5);
        due("12 the least", x.next(), 5);
        x.tick(5);
        due("12 the DUE came", x.next(), 10);
        x.beat(0);
        due("12 the END moved", x.next(), 15);
        x.cancel(0);
        due("12 gone has no END", x.next(), 30);
        x.cancel(1);
        due("12 gone has no DUE", x.next(), NONE);
        x.lend(0, 1);
        x.end(1, DONE_SO);
        due("12 done has none", x.next(), NONE);
        x.set(LIMIT, 0, 0);
        x.add(0, 0, 0, 0, 7);
        due("12 a limit does not matter", x.next(), 12);
    }

    // ---- promise 13

    private static void counts() {
        LoanRounds x = new LoanRounds();
        x.set(MOST, 3, 1);
        for (int i = 0; i < 8; i++) {
            x.add(0, 0, i, 0, 0);
            x.lend(i, 0);
        }
        for (int i = 0; i < 4; i++) {
            for (int k = 0; k <= i; k++) x.add(i, 0, NONE, 0, 0);
        }
        x.tick(2);
        x.end(x.lend(0, 3), FAILED);
        x.end(0, DONE_SO);
        x.add(0, 1, 1, 0, 0);
        x.lend(7, 0);
        int[] want = {2, 19, 17, 8, 1, 0, 1, 1, 1, 1, 1, 1, 2, 0, 2, 1, 1, 1, 1, 1, 1, 1, 2, 3, 3};
        for (int what = 0; what < want.length; what++) due("13 count " + what, x.count(what), want[what]);
        due("13 count -1", x.count(-1), NONE);
        due("13 count 25", x.count(25), NONE);
        for (int bad : FAR) due("13 count " + bad, x.count(bad), NONE);
        for (int near = 0; near < 30; near++) {
            due("13 from below", x.count(Integer.MIN_VALUE + near), NONE);
            due("13 from above", x.count(Integer.MAX_VALUE - near), NONE);
        }
    }

    public static void main(String[] args) {
        nothingIsThereAtFirst();
        objectsAreApart();
        settingsAtFirst();
        addNumbersAndDues();
        addRefuses();
        addUnderAKey();
        addRemembersTheDone();
        addForgetsTheDead();
        addTellsTheGreatestOfLiveAndDone();
        addHasRoomFor64();
        addTakes400();
        lendTheFirst();
        lendAtMostFour();
        lendRefuses();
        beatMovesTheEnd();
        beatOnlyWhileLent();
        endThreeWays();
        endRefuses();
        waitsGrowToTheTop();
        triesMeetMostAsItIsNow();
        backNeverDies();
        tickMovesTime();
        tickRunsLoansOut();
        tickTakesEachAtItsEnd();
        cancelLiveOnes();
        reviveDeadOnes();
        reviveNeedsRoom();
        setWithinBounds();
        setChangesJustThatOne();
        setLimit();
        limitIsEightAtFirst();
        taskTells();
        weightGrows();
        firstOfAQueue();
        firstByGrownWeight();
        nextTime();
        counts();
        CHECKS.close();
    }
}
