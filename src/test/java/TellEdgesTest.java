/** The boundary cases that the document's promises 10 to 13 name: for each such sentence a test of its own. */
public final class TellEdgesTest extends Cases {
    private TellEdgesTest() {
        super("TellEdgesTest");
    }

    // ---- promise 10

    private void taskTellsInEachState() {
        for (int q = 0; q < 4; q++) {
            int[][] due = new int[6][];
            due[DONE_ONE] = new int[] {DONE, 1, NONE, NONE, NONE, NONE, NONE};
            due[DEAD_ONE] = new int[] {DEAD, 1, NONE, NONE, NONE, NONE, NONE};
            due[GONE_ONE] = new int[] {GONE, 0, NONE, NONE, NONE, NONE, NONE};
            due[LENT_ONE] = new int[] {LENT, 1, NONE, 9 + q, q, 3 * q + 2, NONE};
            due[DUE_ONE] = new int[] {WAITING, 0, 3, NONE, NONE, NONE, 1 + 2 / (1 + q)};
            due[LATER_ONE] = new int[] {WAITING, 0, 7, NONE, NONE, NONE, NONE};
            for (int kind = 0; kind < 6; kind++) {
                for (int what = STATE; what <= WEIGHT; what++) {
                    int task = 6 * q + kind;
                    int at = what;
                    idle("what " + what + " of " + task, BUSY, x -> x.task(task, at), due[kind][what]);
                }
            }
        }
    }

    private void whatWasIsNotTold() {
        LoanRounds x = new LoanRounds();
        plain(x);
        x.lend(7, 0);
        x.end(0, BACK);
        due("END of one that waits again", x.task(0, END), NONE);
        due("WORKER of one that waits again", x.task(0, WORKER), NONE);
        due("TOKEN of one that waits again", x.task(0, TOKEN), NONE);
        x.lend(6, 0);
        due("WORKER of one that is lent anew", x.task(0, WORKER), 6);
        due("TOKEN of one that is lent anew", x.task(0, TOKEN), 1);
        due("DUE of one that is lent anew", x.task(0, DUE), NONE);
        due("WEIGHT of one that is lent anew", x.task(0, WEIGHT), NONE);
    }

    private void weightWhileDueIsNotAboveTime() {
        LoanRounds x = new LoanRounds();
        x.set(LIMIT, 4, 0);
        x.add(0, 2, 4, 0, 3);
        x.tick(2);
        due("DUE is TIME and 1", x.task(0, WEIGHT), NONE);
        x.tick(1);
        due("DUE is TIME, though its group is lent no more", x.task(0, WEIGHT), 2);
        x.tick(1);
        due("DUE is TIME less 1", x.task(0, WEIGHT), 2);
        x.add(0, 3, NONE, 0, 1);
        x.add(0, 3, NONE, 0, 0);
        due("one that is due in a tick", x.task(1, WEIGHT), NONE);
        due("one that is due at once", x.task(2, WEIGHT), 3);
    }

    private void taskOfNoneSuch() {
        for (int what = STATE; what <= WEIGHT; what++) {
            int at = what;
            for (int bad : outside(0, BUSY_TASKS - 1)) {
                idleAnywhere("what " + what + " of " + bad, x -> x.task(bad, at), NO_SUCH);
            }
            idle("what " + what + " where none came", FRESH, x -> x.task(0, at), NO_SUCH);
        }
        due("DUE of the first", Twins.made(FULL).task(0, DUE), 0);
        due("DUE of the last", Twins.made(FULL).task(63, DUE), 0);
        idle("DUE of one behind the last", FULL, x -> x.task(64, DUE), NO_SUCH);
    }

    private void taskOfNoSuchWhat() {
        for (int bad : outside(STATE, WEIGHT)) {
            for (int kind = 0; kind < 6; kind++) {
                int task = kind;
                idle("what " + bad + " of " + task, BUSY, x -> x.task(task, bad), NO_SUCH);
            }
            idleAnywhere("what " + bad + " of none such", x -> x.task(BUSY_TASKS, bad), NO_SUCH);
        }
    }

    // ---- promise 11

    private void firstStays() {
        for (int q = 0; q < 4; q++) {
            int at = q;
            idle("first of " + q, BUSY, x -> x.first(at), 6 * q + DUE_ONE);
            idle("first of " + q + " where it is full", FULL, x -> x.first(at), q);
        }
    }

    private void noneIsFirst() {
        idle("an empty queue", FRESH, x -> x.first(3), NONE);
        idle("a task of another queue", x -> x.add(2, 0, NONE, 0, 0), x -> x.first(3), NONE);
        idle("due in a tick", x -> x.add(3, 0, NONE, 0, 1), x -> x.first(3), NONE);
        idle("its group has a LIMIT of 0", x -> {
            x.set(LIMIT, 7, 0);
            x.add(3, 0, 7, 0, 0);
        }, x -> x.first(3), NONE);
        idle("lent", x -> {
            x.add(3, 0, NONE, 0, 0);
            x.lend(0, 3);
        }, x -> x.first(3), NONE);
        for (int bad : outside(0, 3)) idleAnywhere("queue " + bad, x -> x.first(bad), NONE);
    }

    // ---- promise 12

    private void theLeastTimeAboveTime() {
        idle("of DUE 7 and END 9 and more", BUSY, x -> x.next(), 7);
        LoanRounds x = new LoanRounds();
        x.set(LOAN, 0, 5);
        x.add(0, 0, NONE, 0, 0);
        x.lend(0, 0);
        x.add(1, 0, NONE, 0, 6);
        due("END 5 and DUE 6", x.next(), 5);
        x.add(1, 0, NONE, 0, 4);
        due("DUE 4", x.next(), 4);
        x.add(1, 0, NONE, 0, 1);
        due("DUE is TIME and 1", x.next(), 1);
        x.tick(1);
        due("that DUE is TIME", x.next(), 4);
        x.tick(3);
        due("END is TIME and 1", x.next(), 5);
        x.tick(1);
        due("END came, and gave a DUE", x.next(), 6);
    }

    private void nothingComes() {
        idle("nothing is there", FRESH, x -> x.next(), NONE);
        idle("all are due already", FULL, x -> x.next(), NONE);
        idle("due long ago", x -> {
            plain(x);
            x.tick(1000);
        }, x -> x.next(), NONE);
        idle("done, dead and gone ones", x -> {
            for (int i = 0; i < 4; i++) x.add(0, 0, NONE, 0, 0);
            x.end(x.lend(0, 0), DONE_SO);
            die(x, 0, x.lend(0, 0), 5);
            x.lend(0, 0);
            x.cancel(2);
            x.cancel(3);
            x.add(0, 0, NONE, 0, 9);
            x.cancel(4);
        }, x -> x.next(), NONE);
    }

    private void somethingComesAtNext() {
        LoanRounds x = new LoanRounds();
        x.set(LIMIT, 1, 0);
        x.add(0, 0, 1, 0, 4);
        due("a DUE whose group has a LIMIT of 0", x.next(), 4);
        x.add(1, 0, NONE, 0, 1000);
        x.tick(4);
        due("the farthest DUE", x.next(), 1000);
        x.add(2, 0, NONE, 0, 0);
        x.set(LOAN, 2, 200);
        x.lend(0, 2);
        due("the farthest END", x.next(), 204);
        x.tick(200);
        due("it gave a DUE a tick away", x.next(), 205);
    }

    // ---- promise 13

    /** A state in which counts that stand side by side differ. */
    private static void unlike(LoanRounds x) {
        int[] workers = {0, 0, 7, 7, 7, 1, 2, 2, 3};
        int[] groups = {NONE, 7, 0, 0, 7, 7, 7, 1, NONE};
        for (int i = 0; i < workers.length; i++) {
            x.add(1, 0, groups[i], 0, 0);
            x.lend(workers[i], 1);
        }
        int[] waiting = {5, 1, 0, 6};
        for (int q = 0; q < 4; q++) {
            for (int k = 0; k < waiting[q]; k++) x.add(q, 0, NONE, 0, k);
        }
        x.add(2, 0, NONE, 0, 0);
        die(x, 2, x.lend(4, 2), 5);
        x.add(2, 0, NONE, 0, 0);
        x.end(x.lend(4, 2), DONE_SO);
        x.tick(8);
    }

    private void countsOfEachWhat() {
        int[] due = {8, 23, 21, 9, 1, 2, 1, 2, 1, 0, 0, 0, 3, 2, 1, 0, 0, 0, 0, 0, 4, 5, 1, 0, 6};
        for (int what = 0; what < due.length; what++) {
            int at = what;
            idle("count " + what, TellEdgesTest::unlike, x -> x.count(at), due[what]);
        }
        int[] busy = {BUSY_TIME, 24, 12, 4, 4, 1, 1, 1, 1, 0, 0, 0, 0, 1, 1, 1, 1, 0, 0, 0, 0, 2, 2, 2, 2};
        for (int what = 0; what < busy.length; what++) {
            int at = what;
            idle("count " + what + " of a busy object", BUSY, x -> x.count(at), busy[what]);
        }
    }

    private void countsWhereItIsFull() {
        LoanRounds x = Twins.made(FULL);
        for (int i = 0; i < 32; i++) x.lend(i / 4, i % 4);
        due("came", x.count(CAME), 64);
        due("live", x.count(LIVE), 64);
        due("lent", x.count(LENT_ONES), 32);
        for (int w = 0; w < 8; w++) due("of worker " + w, x.count(OF_WORKER + w), 4);
        for (int q = 0; q < 4; q++) due("in queue " + q, x.count(OF_QUEUE + q), 8);
    }

    private void countOfAnotherWhat() {
        for (int bad : outside(0, 24)) idleAnywhere("count " + bad, x -> x.count(bad), NONE);
        for (int near = 0; near < 30; near++) {
            due("from the least int", Twins.made(BUSY).count(Integer.MIN_VALUE + near), NONE);
            due("to the greatest int", Twins.made(BUSY).count(Integer.MAX_VALUE - near), NONE);
        }
    }

    private void run() {
        sentence("10: Of a TASK, what 0 to 6", this::taskTellsInEachState);
        sentence("10: while WAITING, while LENT, else NONE", this::whatWasIsNotTold);
        sentence("10: while WAITING and DUE is not above TIME", this::weightWhileDueIsNotAboveTime);
        sentence("10: NoSuchElementException: there is none such", this::taskOfNoneSuch);
        sentence("10: or no such what", this::taskOfNoSuchWhat);
        sentence("11: The FIRST of a QUEUE, which stays: its number", this::firstStays);
        sentence("11: NONE if there is none such, or no such QUEUE", this::noneIsFirst);
        sentence("12: The least time, a DUE or END that is above TIME", this::theLeastTimeAboveTime);
        sentence("12: NONE if there are no such ones", this::nothingComes);
        sentence("12: at which, if only ticks come", this::somethingComesAtNext);
        sentence("13: What 0 to 24", this::countsOfEachWhat);
        sentence("13: What 0 to 24 (where it is full)", this::countsWhereItIsFull);
        sentence("13: NONE for another what", this::countOfAnotherWhat);
        close();
    }

    public static void main(String[] args) {
        new TellEdgesTest().run();
    }
}
