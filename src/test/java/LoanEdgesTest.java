/** The boundary cases that the document's promises 3 to 6 name: for each such sentence a test of its own. */
public final class LoanEdgesTest extends Cases {
    private LoanEdgesTest() {
        super("LoanEdgesTest");
    }

    // ---- promise 3

    private void lentUntilTimeAndLoan() {
        LoanRounds x = new LoanRounds();
        int[] loans = {1, 2, 199, 200};
        for (int q = 0; q < 4; q++) {
            x.set(LOAN, q, loans[q]);
            x.add(q, 0, NONE, 0, 0);
        }
        x.tick(3);
        for (int q = 0; q < 4; q++) {
            due("its TOKEN", x.lend(q, q), q);
            due("TIME and " + loans[q], x.task(q, END), 3 + loans[q]);
            due("its TRIES", x.task(q, TRIES), 1);
        }
    }

    private void noneToLend() {
        idle("an empty queue", FRESH, x -> x.lend(0, 0), NONE);
        idle("the tasks are in the other queues", x -> {
            for (int q = 1; q < 4; q++) x.add(q, 3, NONE, 0, 0);
        }, x -> x.lend(0, 0), NONE);
        idle("its task is due in a tick", x -> x.add(0, 0, NONE, 0, 1), x -> x.lend(0, 0), NONE);
        idle("its task is lent", x -> {
            plain(x);
            x.lend(1, 0);
        }, x -> x.lend(0, 0), NONE);
        idle("its task's group has a LIMIT of 0", x -> {
            x.set(LIMIT, 2, 0);
            x.add(0, 0, 2, 0, 0);
        }, x -> x.lend(0, 0), NONE);
        idle("its task's group is lent as far as LIMIT", x -> {
            x.set(LIMIT, 2, 1);
            x.add(0, 0, 2, 0, 0);
            x.add(3, 0, 2, 0, 0);
            x.lend(1, 3);
        }, x -> x.lend(0, 0), NONE);
    }

    /** Worker 5 has so many loans, of all queues; one more task waits in each. */
    private static void loansOfFive(LoanRounds x, int loans) {
        for (int i = 0; i < 8; i++) x.add(i % 4, 0, NONE, 0, 0);
        for (int i = 0; i < loans; i++) x.lend(5, i);
    }

    private void theWorkerHasFour() {
        for (int loans = 0; loans <= 3; loans++) {
            int had = loans;
            due(loans + " loans", Twins.made(x -> loansOfFive(x, had)).lend(5, 0), loans);
        }
        for (int q = 0; q < 4; q++) {
            int at = q;
            idle("4 loans, of queue " + q, x -> loansOfFive(x, 4), x -> x.lend(5, at), NONE);
            due("another worker", Twins.made(x -> loansOfFive(x, 4)).lend(4, q), 4);
        }
    }

    private void theWorkerHasThreeAgain() {
        for (int way = 0; way <= 4; way++) {
            LoanRounds x = Twins.made(y -> loansOfFive(y, 4));
            x.tick(9);
            for (int token = 1; token < 4; token++) x.beat(token);
            if (way <= BACK) x.end(0, way);
            if (way == 3) x.tick(1);
            if (way == 4) x.cancel(0);
            due("the loan is over, way " + way, x.lend(5, 1), 4);
            due("4 again", x.lend(5, 2), NONE);
        }
    }

    private void lendOfNoSuch() {
        for (int bad : outside(0, 7)) idleAnywhere("worker " + bad, x -> x.lend(bad, 0), REFUSED);
        for (int bad : outside(0, 3)) {
            idleAnywhere("queue " + bad, x -> x.lend(0, bad), REFUSED);
            idle("queue " + bad + " for a worker that has 4", x -> loansOfFive(x, 4), x -> x.lend(5, bad), REFUSED);
        }
        idle("neither", BUSY, x -> x.lend(8, 4), REFUSED);
    }

    // ---- promise 4

    private void endIsTimeAndLoan() {
        LoanRounds x = new LoanRounds();
        plain(x);
        x.lend(0, 0);
        due("at once", x.beat(0), true);
        due("at once the same END", x.task(0, END), 10);
        x.tick(9);
        due("a tick before END", x.beat(0), true);
        due("END from there", x.task(0, END), 19);
        due("a tick before the new END", x.tick(9), 0);
        x.set(LOAN, 0, 1);
        due("LOAN as it is now", x.beat(0), true);
        due("END with that LOAN", x.task(0, END), 19);
        x.set(LOAN, 0, 200);
        due("the greatest LOAN", x.beat(0), true);
        due("END with that LOAN", x.task(0, END), 218);
        x.set(LOAN, 0, 1);
        due("the least LOAN", x.beat(0), true);
        due("END has come nearer", x.task(0, END), 19);
        x.set(LOAN, 0, 200);
        x.beat(0);
        due("not a try", x.task(0, TRIES), 1);
        due("it is lent to the last", x.tick(199), 0);
        due("it runs out", x.tick(1), 1);
    }

    /** A token of each kind that is over: 0 done, 1 failed, 2 came back, 3 gone, 4 ran out; 2 is lent anew with 5. */
    private static void tokensThatAreOver(LoanRounds x) {
        x.set(BASE, 0, 20);
        for (int i = 0; i < 5; i++) plain(x);
        for (int i = 0; i < 5; i++) x.lend(i, 0);
        for (int how = 0; how <= 2; how++) x.end(how, how);
        x.cancel(3);
        x.tick(10);
        x.lend(0, 0);
    }

    private void beatIsOver() {
        for (int token = 0; token <= 4; token++) {
            int over = token;
            idle("token " + token, LoanEdgesTest::tokensThatAreOver, x -> x.beat(over), false);
        }
        due("the new token of one that came back", Twins.made(LoanEdgesTest::tokensThatAreOver).beat(5), true);
        for (int bad : outside(0, 5)) {
            idle("no such token " + bad, LoanEdgesTest::tokensThatAreOver, x -> x.beat(bad), false);
        }
        for (int bad : outside(0, BUSY_TOKENS - 1)) idleAnywhere("no such token " + bad, x -> x.beat(bad), false);
        idle("NONE while a task that was never lent waits", x -> plain(x), x -> x.beat(NONE), false);
    }

    // ---- promise 5

    private void endsInEachHow() {
        int[] states = {DONE, WAITING, WAITING};
        int[] dues = {NONE, 3 + 7, 3};
        int[] tries = {1, 1, 0};
        for (int how = 0; how <= 2; how++) {
            LoanRounds x = new LoanRounds();
            x.set(BASE, 0, 7);
            plain(x);
            plain(x);
            x.lend(6, 0);
            x.lend(6, 0);
            x.tick(3);
            due("its number, how " + how, x.end(1, how), 1);
            due("its state, how " + how, x.task(1, STATE), states[how]);
            due("its DUE, how " + how, x.task(1, DUE), dues[how]);
            due("its TRIES, how " + how, x.task(1, TRIES), tries[how]);
            due("the other one is lent", x.task(0, STATE), LENT);
            due("the worker has one", x.count(OF_WORKER + 6), 1);
        }
    }

    private void failedForTheLastTime() {
        for (int most = 1; most <= 2; most++) {
            LoanRounds x = new LoanRounds();
            x.set(MOST, 0, most);
            plain(x);
            due("its number", x.end(x.lend(0, 0), FAILED), 0);
            due("one try, MOST " + most, x.task(0, STATE), most == 1 ? DEAD : WAITING);
        }
    }

    private void comesBackWithATryLess() {
        LoanRounds x = new LoanRounds();
        x.set(MOST, 0, 2);
        plain(x);
        x.end(x.lend(0, 0), BACK);
        due("from 1", x.task(0, TRIES), 0);
        x.end(x.lend(0, 0), FAILED);
        x.tick(1);
        x.lend(0, 0);
        x.tick(4);
        x.end(2, BACK);
        due("from 2, which is MOST", x.task(0, TRIES), 1);
        due("it waits", x.task(0, STATE), WAITING);
        due("DUE at TIME", x.task(0, DUE), 5);
        due("so it may be had", x.lend(0, 0), 3);
        due("2 once more", x.task(0, TRIES), 2);
    }

    private void endOfWhatIsNotLent() {
        for (int token = 0; token <= 4; token++) {
            int over = token;
            for (int how = 0; how <= 2; how++) {
                int so = how;
                idle("token " + token, LoanEdgesTest::tokensThatAreOver, x -> x.end(over, so), NO_SUCH);
            }
        }
        due("the new token of one that came back", Twins.made(LoanEdgesTest::tokensThatAreOver).end(5, 0), 2);
        for (int bad : outside(0, BUSY_TOKENS - 1)) {
            idleAnywhere("no such token " + bad, x -> x.end(bad, DONE_SO), NO_SUCH);
        }
        idle("NONE while a task that was never lent waits", x -> plain(x), x -> x.end(NONE, DONE_SO), NO_SUCH);
    }

    private void noSuchHow() {
        int lentInBusy = 2;
        for (int bad : outside(0, 2)) {
            idle("how " + bad, BUSY, x -> x.end(lentInBusy, bad), REFUSED);
            idleAnywhere("how " + bad + " and no such token", x -> x.end(BUSY_TOKENS, bad), NO_SUCH);
            idle("how " + bad + " and a token that is over", LoanEdgesTest::tokensThatAreOver,
                x -> x.end(0, bad), NO_SUCH);
        }
        due("the token is lent", Twins.made(BUSY).end(lentInBusy, DONE_SO), LENT_ONE);
    }

    // ---- promise 6

    private void soManyTicks() {
        for (int n : new int[] {1, 2, 999, 1000}) {
            LoanRounds x = new LoanRounds();
            due("none is lent", x.tick(n), 0);
            due("TIME after " + n, x.count(TIME), n);
            x.tick(n);
            due("TIME after " + n + " twice", x.count(TIME), 2 * n);
        }
    }

    private void endNotAboveTime() {
        for (int loan : new int[] {1, 2, 10, 200}) {
            LoanRounds x = new LoanRounds();
            x.set(LOAN, 0, loan);
            plain(x);
            x.tick(5);
            x.lend(0, 0);
            if (loan > 1) due("to END less 1", x.tick(loan - 1), 0);
            due("END is above TIME", x.task(0, STATE), LENT);
            due("to END", x.tick(1), 1);
            due("END is TIME", x.task(0, STATE), WAITING);
            due("its TRIES stay", x.task(0, TRIES), 1);
            due("DUE from there", x.task(0, DUE), 5 + loan + 1);
            due("it is tried again once", x.tick(1000), 0);
        }
    }

    private void oneByOne() {
        int[] loans = {1, 40, 200, 7};
        LoanRounds x = new LoanRounds();
        for (int q = 0; q < 4; q++) {
            x.set(LOAN, q, loans[q]);
            x.set(BASE, q, 3);
            x.add(q, 0, 0, 0, 0);
            x.lend(0, q);
        }
        due("all of them in one call", x.tick(1000), 4);
        for (int q = 0; q < 4; q++) due("DUE from its own END", x.task(q, DUE), loans[q] + 3);
        due("TIME", x.count(TIME), 1000);
        due("no loans of the worker", x.count(OF_WORKER), 0);
        due("no loans of the group", x.count(OF_GROUP), 0);
    }

    private void howMany() {
        LoanRounds x = new LoanRounds();
        x.set(MOST, 1, 1);
        for (int i = 0; i < 32; i++) {
            x.add(i % 2, 0, NONE, 0, 0);
            x.lend(i / 4, i % 2);
        }
        x.end(0, DONE_SO);
        x.cancel(1);
        due("before any END", x.tick(9), 0);
        x.beat(2);
        due("all but the done, the gone and the one that beat", x.tick(1), 29);
        due("those of MOST 1 died", x.count(DEAD_ONES), 15);
        due("the one that beat is lent", x.count(LENT_ONES), 1);
        due("it runs out too", x.tick(9), 1);
        due("none is lent", x.tick(1), 0);
    }

    private void noSuchNumberOfTicks() {
        for (int bad : outside(1, 1000)) {
            idleAnywhere(bad + " ticks", x -> x.tick(bad), REFUSED);
            idle(bad + " ticks where it is full", FULL, x -> x.tick(bad), REFUSED);
        }
        idleAnywhere("-1 ticks", x -> x.tick(-1), REFUSED);
    }

    private void run() {
        sentence("3: until TIME and LOAN; its TRIES grow by 1: its TOKEN", this::lentUntilTimeAndLoan);
        sentence("3: NONE if there is none", this::noneToLend);
        sentence("3: or the WORKER has 4", this::theWorkerHasFour);
        sentence("3: the WORKER has 4 (and fewer again)", this::theWorkerHasThreeAgain);
        sentence("3: there is no such QUEUE or WORKER", this::lendOfNoSuch);
        sentence("4: is TIME and LOAN from now on: true", this::endIsTimeAndLoan);
        sentence("4: false if it is not LENT with it any more", this::beatIsOver);
        sentence("5: DONE (how 0), has failed (1), comes back (2): its number", this::endsInEachHow);
        sentence("5: has failed (1: it is tried again)", this::failedForTheLastTime);
        sentence("5: comes back (2: WAITING, DUE at TIME, TRIES less by 1)", this::comesBackWithATryLess);
        sentence("5: NoSuchElementException: it is not LENT with it any more", this::endOfWhatIsNotLent);
        sentence("5: there is no such how (asked behind that)", this::noSuchHow);
        sentence("6: TIME goes on by n ticks, 1 .. 1000", this::soManyTicks);
        sentence("6: all LENT TASKS whose END is not above TIME are tried again", this::endNotAboveTime);
        sentence("6: one by one: at each one", this::oneByOne);
        sentence("6: how many", this::howMany);
        sentence("6: IllegalArgumentException: no such n", this::noSuchNumberOfTicks);
        close();
    }

    public static void main(String[] args) {
        new LoanEdgesTest().run();
    }
}
