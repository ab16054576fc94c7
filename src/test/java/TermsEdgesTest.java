/** The boundary cases that the document names up to its Terms: for each such sentence a test of its own. */
public final class TermsEdgesTest extends Cases {
    private TermsEdgesTest() {
        super("TermsEdgesTest");
    }

    // ---- the calls of one object

    private void theFarthestTime() {
        LoanRounds x = new LoanRounds();
        x.set(GROWTH, 0, 1);
        x.add(0, 0, NONE, 0, 0);
        for (int call = 3; call <= 510; call++) x.tick(1000);
        due("call 511", x.count(TIME), 508_000);
        due("call 512", x.task(0, WEIGHT), 9);
    }

    private void theGreatestToken() {
        LoanRounds x = new LoanRounds();
        plain(x);
        for (int token = 0; token < 255; token++) {
            due("lend", x.lend(0, 0), token);
            due("end", x.end(token, BACK), 0);
        }
        due("call 512", x.lend(0, 0), 255);
    }

    // ---- the numbers of things

    private void time() {
        LoanRounds x = new LoanRounds();
        due("at first", x.count(TIME), 0);
        x.tick(1);
        due("after one", x.count(TIME), 1);
        x.tick(1000);
        due("after a thousand more", x.count(TIME), 1001);
    }

    private void queues() {
        for (int q = 0; q < 4; q++) {
            LoanRounds x = new LoanRounds();
            due("add to " + q, x.add(q, 0, NONE, 0, 0), 0);
            due("waiting in " + q, x.count(OF_QUEUE + q), 1);
            due("first of " + q, x.first(q), 0);
            due("lend of " + q, x.lend(0, q), 0);
            for (int what = LOAN; what <= MEMORY; what++) due("set of " + q, x.set(what, q, 1), true);
        }
        for (int bad : outside(0, 3)) {
            idleAnywhere("add to " + bad, x -> x.add(bad, 0, NONE, 0, 0), REFUSED);
            idleAnywhere("lend of " + bad, x -> x.lend(0, bad), REFUSED);
            idleAnywhere("first of " + bad, x -> x.first(bad), NONE);
            for (int what = LOAN; what <= MEMORY; what++) {
                int at = what;
                idleAnywhere("set " + what + " of " + bad, x -> x.set(at, bad, 1), false);
            }
        }
    }

    private void workers() {
        LoanRounds x = new LoanRounds();
        for (int w = 0; w < 8; w++) {
            plain(x);
            due("lend to " + w, x.lend(w, 0), w);
            due("the worker is " + w, x.task(w, WORKER), w);
            due("lent to " + w, x.count(OF_WORKER + w), 1);
        }
        for (int bad : outside(0, 7)) idleAnywhere("lend to " + bad, y -> y.lend(bad, 0), REFUSED);
    }

    private void groups() {
        LoanRounds x = new LoanRounds();
        for (int g = 0; g < 8; g++) {
            due("limit of " + g, x.set(LIMIT, g, 1), true);
            due("add to " + g, x.add(0, 0, g, 0, 0), g);
            due("lend of " + g, x.lend(g, 0), g);
            due("lent of " + g, x.count(OF_GROUP + g), 1);
        }
        for (int bad : outside(NONE, 7)) idleAnywhere("add to " + bad, y -> y.add(0, 0, bad, 0, 0), REFUSED);
        for (int bad : outside(0, 7)) idleAnywhere("limit of " + bad, y -> y.set(LIMIT, bad, 1), false);
    }

    private void taskNumbers() {
        LoanRounds x = new LoanRounds();
        due("the first", x.add(3, 0, NONE, 9, 0), 0);
        due("the second", plain(x), 1);
        refused("a refused one", () -> x.add(4, 0, NONE, 0, 0));
        due("a known one", x.add(3, 0, NONE, 9, 0), 0);
        due("neither took a number", plain(x), 2);
        x.cancel(2);
        due("the number of one that is gone is not given again", plain(x), 3);
    }

    // 400 tasks take more than 512 calls, after which answers are free; the limit is kept there too.
    private void atMost400Tasks() {
        LoanRounds x = new LoanRounds();
        for (int i = 0; i < 399; i++) x.cancel(plain(x));
        due("the last one", plain(x), 399);
        noRoom("one more", () -> plain(x));
        due("came", x.count(CAME), 400);
        x.cancel(399);
        noRoom("one more where none is live", () -> plain(x));
    }

    private void ranks() {
        LoanRounds x = new LoanRounds();
        for (int r = 0; r < 4; r++) {
            due("add of rank " + r, x.add(0, r, NONE, 0, 0), r);
            due("the rank " + r, x.task(r, WEIGHT), r);
        }
        for (int bad : outside(0, 3)) idleAnywhere("rank " + bad, y -> y.add(0, bad, NONE, 0, 0), REFUSED);
    }

    private void orNoGroup() {
        LoanRounds x = new LoanRounds();
        for (int g = 0; g < 8; g++) x.set(LIMIT, g, 0);
        due("add", x.add(0, 0, NONE, 0, 0), 0);
        due("lend, though every limit is 0", x.lend(0, 0), 0);
        for (int g = 0; g < 8; g++) due("lent of " + g, x.count(OF_GROUP + g), 0);
    }

    private void keys() {
        LoanRounds x = new LoanRounds();
        due("without a key", x.add(0, 0, NONE, 0, 0), 0);
        due("without a key again", x.add(0, 0, NONE, 0, 0), 1);
        long[] keys = {1, -1, Integer.MIN_VALUE, 1L << 32, Long.MAX_VALUE, Long.MIN_VALUE};
        for (int i = 0; i < keys.length; i++) {
            due("the key " + keys[i], x.add(0, 0, NONE, keys[i], 0), 2 + i);
        }
        for (int i = 0; i < keys.length; i++) {
            due("the key " + keys[i] + " again", x.add(0, 0, NONE, keys[i], 0), 2 + i);
        }
    }

    private void noTriesAtFirst() {
        LoanRounds x = new LoanRounds();
        plain(x);
        due("at first", x.task(0, TRIES), 0);
        x.lend(0, 0);
        due("after one", x.task(0, TRIES), 1);
    }

    private void tokenNumbers() {
        LoanRounds x = new LoanRounds();
        due("nothing to lend", x.lend(0, 0), NONE);
        plain(x);
        x.add(1, 0, NONE, 0, 0);
        refused("no such worker", () -> x.lend(8, 0));
        due("the first", x.lend(0, 0), 0);
        due("nothing more to lend", x.lend(0, 0), NONE);
        due("the second, of another queue and worker", x.lend(1, 1), 1);
        x.end(0, BACK);
        due("the same task again", x.lend(0, 0), 2);
        due("the token of the task", x.task(0, TOKEN), 2);
    }

    // ---- live ones

    private void liveStates() {
        LoanRounds x = new LoanRounds();
        x.set(MOST, 2, 1);
        for (int q = 0; q < 4; q++) x.add(q, 0, NONE, 0, q == 3 ? 1 : 0);
        due("waiting, due or not", x.count(LIVE), 4);
        for (int q = 0; q < 3; q++) x.lend(q, q);
        due("lent", x.count(LIVE), 4);
        x.end(0, DONE_SO);
        due("one is done", x.count(LIVE), 3);
        x.end(2, FAILED);
        due("one is dead", x.count(LIVE), 2);
        x.cancel(3);
        due("one is gone", x.count(LIVE), 1);
        x.end(1, FAILED);
        due("one waits again", x.count(LIVE), 1);
        x.cancel(1);
        due("none", x.count(LIVE), 0);
    }

    private void atMost64Live() {
        LoanRounds x = new LoanRounds();
        x.set(MOST, 1, 1);
        x.add(1, 0, NONE, 0, 0);
        lendAndFail(x, 1);
        for (int i = 1; i <= 63; i++) plain(x);
        due("63", x.count(LIVE), 63);
        due("one more comes", plain(x), 64);
        due("64", x.count(LIVE), 64);
        noRoom("one more than 64", () -> plain(x));
        for (int w = 0; w < 8; w++) {
            for (int k = 0; k < 4; k++) x.lend(w, 0);
        }
        due("half of them lent", x.count(LENT_ONES), 32);
        due("64 of both kinds", x.count(LIVE), 64);
        noRoom("one more than 32 and 32", () -> plain(x));
        due("the dead one can't come back", x.revive(0), false);
        x.end(x.task(1, TOKEN), DONE_SO);
        due("the dead one comes in the place of a done one", x.revive(0), true);
        noRoom("64 once more", () -> plain(x));
        due("still 64", x.count(LIVE), 64);
    }

    // ---- settings

    private void setting(int what, int least, int greatest, int atFirst) {
        int places = Settings.places(what);
        for (int i = 0; i < places; i++) {
            int which = i;
            int other = (i + 1) % places;
            due("at first of " + which, Settings.measured(x -> { }, what, which), atFirst);
            for (int v : new int[] {least, greatest}) {
                due(v + " of " + which, new LoanRounds().set(what, which, v), true);
                due("it is " + v, Settings.measured(x -> x.set(what, which, v), what, which), v);
                due("the other one's stays", Settings.measured(x -> x.set(what, which, v), what, other), atFirst);
            }
            for (int bad : outside(least, greatest)) {
                idleAnywhere(bad + " of " + which, x -> x.set(what, which, bad), false);
                due("it stays at " + greatest, Settings.measured(x -> {
                    x.set(what, which, greatest);
                    x.set(what, which, bad);
                }, what, which), greatest);
            }
        }
    }

    private void setHoldsBehindThat() {
        LoanRounds x = new LoanRounds();
        plain(x);
        plain(x);
        x.lend(0, 0);
        x.set(LOAN, 0, 3);
        x.lend(0, 0);
        due("LOAN before", x.task(0, END), 10);
        due("LOAN behind", x.task(1, END), 3);
        x.set(BASE, 0, 8);
        due("the loan runs out", x.tick(3), 1);
        due("BASE behind the lending", x.task(1, DUE), 11);
        x.tick(8);
        x.set(MOST, 0, 1);
        due("MOST below its tries leaves it waiting", x.task(1, STATE), WAITING);
        lendAndFail(x, 0);
        due("MOST behind that", x.task(1, STATE), DEAD);
        x.set(MOST, 0, 20);
        due("MOST above its tries leaves it dead", x.task(1, STATE), DEAD);
        x.set(GROWTH, 0, 1);
        int task = plain(x);
        x.tick(4);
        due("GROWTH 1", x.task(task, WEIGHT), 4);
        x.set(GROWTH, 0, 2);
        due("GROWTH 2, for the same ticks", x.task(task, WEIGHT), 2);
    }

    private void limitHoldsBehindThat() {
        LoanRounds x = new LoanRounds();
        for (int i = 0; i < 4; i++) x.add(0, 0, 6, 0, 0);
        for (int i = 0; i < 3; i++) x.lend(0, 0);
        x.set(LIMIT, 6, 0);
        due("the lent ones stay", x.count(OF_GROUP + 6), 3);
        due("one can beat", x.beat(0), true);
        x.set(LIMIT, 6, 2);
        x.end(0, DONE_SO);
        due("as many as LIMIT are lent", x.lend(0, 0), NONE);
        x.end(1, DONE_SO);
        due("fewer than LIMIT are lent", x.lend(0, 0), 3);
    }

    private void dueAndEndStay() {
        LoanRounds x = new LoanRounds();
        plain(x);
        x.add(1, 0, NONE, 0, 0);
        x.add(0, 0, NONE, 0, 50);
        x.lend(0, 0);
        lendAndFail(x, 1);
        int[] least = {1, 1, 1, 1, 0, 0};
        int[] greatest = {200, 20, 100, 1000, 100, 1000};
        for (int what = LOAN; what <= MEMORY; what++) {
            for (int v : new int[] {least[what], greatest[what]}) {
                x.set(what, 0, v);
                x.set(what, 1, v);
                due("an END", x.task(0, END), 10);
                due("a DUE of a failed one", x.task(1, DUE), 1);
                due("a DUE of a new one", x.task(2, DUE), 50);
            }
        }
        due("it runs out at that END", x.tick(9), 0);
        due("it runs out at that END", x.tick(1), 1);
    }

    // ---- what may be had

    private void onlyTheWaitingMayBeHad() {
        LoanRounds x = new LoanRounds();
        x.set(MOST, 0, 1);
        plain(x);
        due("waiting", x.first(0), 0);
        x.lend(0, 0);
        due("lent", x.first(0), NONE);
        x.end(0, DONE_SO);
        due("done", x.first(0), NONE);
        plain(x);
        lendAndFail(x, 0);
        due("dead", x.first(0), NONE);
        plain(x);
        x.cancel(2);
        due("gone", x.first(0), NONE);
        due("none is lent", x.lend(0, 0), NONE);
    }

    private void dueNotAboveTime() {
        LoanRounds x = new LoanRounds();
        x.add(0, 0, NONE, 0, 0);
        x.add(1, 0, NONE, 0, 1);
        x.add(2, 0, NONE, 0, 1000);
        due("DUE is TIME", x.first(0), 0);
        due("DUE is TIME and 1", x.first(1), NONE);
        due("no lend before DUE", x.lend(0, 1), NONE);
        x.tick(1);
        due("DUE was a tick ago", x.first(0), 0);
        due("DUE has come", x.first(1), 1);
        x.tick(998);
        due("one tick before", x.first(2), NONE);
        x.tick(1);
        due("a thousand ticks", x.first(2), 2);
        due("lend at DUE", x.lend(0, 2), 0);
    }

    private void noGroupNoLimit() {
        LoanRounds x = new LoanRounds();
        for (int i = 0; i < 9; i++) x.add(0, 0, NONE, 0, 0);
        for (int i = 0; i < 9; i++) due("more than any LIMIT", x.lend(i % 8, 0), i);
    }

    private void fewerLentThanLimit() {
        for (int limit = 0; limit <= 8; limit++) {
            LoanRounds x = new LoanRounds();
            x.set(LIMIT, 3, limit);
            for (int i = 0; i <= limit; i++) x.add(i % 4, 0, 3, 0, 0);
            for (int i = 0; i < limit; i++) {
                due("LIMIT " + limit + ", lent " + i, x.first(i % 4), i);
                due("lend", x.lend(i % 8, i % 4), i);
            }
            due("LIMIT " + limit + " is lent", x.first(limit % 4), NONE);
            due("no lend", x.lend(7, limit % 4), NONE);
            x.add(limit % 4, 0, 4, 0, 0);
            due("another group", x.first(limit % 4), limit + 1);
        }
    }

    private void loansThatEndFreeTheGroup() {
        for (int how = 0; how <= 4; how++) {
            LoanRounds x = new LoanRounds();
            x.set(LIMIT, 0, 1);
            x.add(0, 0, 0, 0, 0);
            x.add(1, 0, 0, 0, 0);
            x.lend(0, 0);
            due("one is lent", x.first(1), NONE);
            if (how <= BACK) x.end(0, how);
            if (how == 3) x.tick(10);
            if (how == 4) x.cancel(0);
            due("none is lent, way " + how, x.first(1), 1);
        }
    }

    // ---- weights

    private void oneForEachWholeGrowth() {
        for (int growth : new int[] {1, 2, 7, 100}) {
            LoanRounds x = new LoanRounds();
            x.set(GROWTH, 0, growth);
            x.add(0, 1, NONE, 0, 3);
            x.tick(3);
            due("at DUE", x.task(0, WEIGHT), 1);
            pass(x, growth - 1);
            due("before the first " + growth, x.task(0, WEIGHT), 1);
            x.tick(1);
            due("at the first " + growth, x.task(0, WEIGHT), 2);
            pass(x, growth - 1);
            due("before the second " + growth, x.task(0, WEIGHT), 2);
            x.tick(1);
            due("at the second " + growth, x.task(0, WEIGHT), 3);
        }
    }

    private void growthCountsFromTheNewDue() {
        LoanRounds x = new LoanRounds();
        x.set(GROWTH, 0, 2);
        x.set(BASE, 0, 3);
        plain(x);
        x.tick(8);
        due("from the first DUE", x.task(0, WEIGHT), 4);
        lendAndFail(x, 0);
        x.tick(2);
        due("not yet due", x.task(0, WEIGHT), NONE);
        x.tick(1);
        due("at the new DUE", x.task(0, WEIGHT), 0);
        x.tick(2);
        due("from the new DUE", x.task(0, WEIGHT), 1);
        x.end(x.lend(0, 0), BACK);
        due("from the TIME it came back", x.task(0, WEIGHT), 0);
    }

    private void withoutGrowthNone() {
        LoanRounds x = new LoanRounds();
        x.add(0, 0, NONE, 0, 0);
        x.add(0, 3, NONE, 0, 0);
        x.tick(1000);
        x.tick(1000);
        due("rank 0", x.task(0, WEIGHT), 0);
        due("rank 3", x.task(1, WEIGHT), 3);
        x.set(GROWTH, 0, 100);
        due("rank 0 with GROWTH", x.task(0, WEIGHT), 9);
        x.set(GROWTH, 0, 0);
        due("rank 0 without it again", x.task(0, WEIGHT), 0);
    }

    private void atMostNine() {
        for (int rank = 0; rank <= 3; rank++) {
            LoanRounds x = new LoanRounds();
            x.set(GROWTH, 0, 100);
            x.add(0, rank, NONE, 0, 0);
            pass(x, 100 * (9 - rank) - 1);
            due("eight", x.task(0, WEIGHT), 8);
            x.tick(1);
            due("nine", x.task(0, WEIGHT), 9);
            x.tick(100);
            due("no ten", x.task(0, WEIGHT), 9);
            pass(x, 5000);
            due("for ever", x.task(0, WEIGHT), 9);
        }
    }

    // ---- the first

    private void greatestWeight() {
        LoanRounds x = new LoanRounds();
        for (int rank = 0; rank <= 3; rank++) {
            x.add(0, rank, NONE, 0, rank);
            due("rank " + rank + " is not due", x.first(0), rank == 0 ? 0 : rank - 1);
            if (rank > 0) x.tick(rank);
            due("rank " + rank + " is due, the latest", x.first(0), rank);
        }
        x.set(GROWTH, 0, 1);
        due("the longest wait outweighs the rank", x.first(0), 0);
    }

    private void weightMeetsWeight() {
        LoanRounds x = new LoanRounds();
        x.set(GROWTH, 0, 5);
        plain(x);
        x.tick(9);
        x.add(0, 2, NONE, 0, 0);
        due("1 against 2", x.first(0), 1);
        x.tick(1);
        due("2 against 2, the least DUE", x.first(0), 0);
        x.tick(4);
        due("2 against 3", x.task(1, WEIGHT) - x.task(0, WEIGHT), 1);
        due("3 goes first", x.first(0), 1);
    }

    private void cappedWeightsAreAlike() {
        LoanRounds x = new LoanRounds();
        x.set(GROWTH, 0, 1);
        x.add(0, 3, NONE, 0, 1);
        x.add(0, 0, NONE, 0, 0);
        x.tick(8);
        due("9 against 8", x.first(0), 0);
        x.tick(1);
        due("9 against 9, the least DUE", x.first(0), 1);
        x.tick(11);
        due("what would be 22 against 20", x.first(0), 1);
    }

    private void leastDue() {
        LoanRounds x = new LoanRounds();
        x.add(0, 1, NONE, 0, 2);
        x.add(0, 1, NONE, 0, 1);
        x.add(0, 1, NONE, 0, 3);
        x.tick(3);
        due("DUE 1", x.first(0), 1);
        x.cancel(1);
        due("DUE 2", x.first(0), 0);
        x.cancel(0);
        due("DUE 3", x.first(0), 2);
    }

    private void leastNumber() {
        LoanRounds x = new LoanRounds();
        x.add(0, 1, NONE, 0, 1);
        x.tick(1);
        x.add(0, 1, NONE, 0, 0);
        x.add(0, 1, NONE, 0, 0);
        due("0, 1 and 2 are alike", x.first(0), 0);
        x.end(x.lend(0, 0), BACK);
        due("0 came back and is alike", x.first(0), 0);
        x.cancel(0);
        due("1 and 2 are alike", x.first(0), 1);
        x.lend(0, 0);
        due("2 alone", x.first(0), 2);
    }

    // ---- to try again

    private void deadAtMost() {
        for (int most : new int[] {1, 2, 5, 20}) {
            LoanRounds x = new LoanRounds();
            x.set(MOST, 0, most);
            x.set(TOP, 0, 1);
            plain(x);
            for (int tries = 1; tries < most; tries++) {
                lendAndFail(x, 0);
                due("try " + tries + " of " + most, x.task(0, STATE), WAITING);
                x.tick(1);
            }
            x.lend(0, 0);
            due("tries", x.task(0, TRIES), most);
            x.end(x.task(0, TOKEN), FAILED);
            due("the last of " + most, x.task(0, STATE), DEAD);
            due("its tries stay", x.task(0, TRIES), most);
        }
    }

    private void deadAboveMost() {
        for (int most = 1; most <= 4; most++) {
            LoanRounds x = new LoanRounds();
            plain(x);
            lendAndFail(x, 0);
            x.tick(1);
            lendAndFail(x, 0);
            x.tick(2);
            x.lend(0, 0);
            x.set(MOST, 0, most);
            x.tick(10);
            due("3 tries where MOST is " + most, x.task(0, STATE), most <= 3 ? DEAD : WAITING);
        }
    }

    private void baseDoubles() {
        LoanRounds x = new LoanRounds();
        x.set(MOST, 0, 20);
        x.set(TOP, 0, 1000);
        x.set(BASE, 0, 3);
        plain(x);
        int[] waits = {3, 6, 12, 24, 48, 96, 192, 384, 768};
        for (int wait : waits) {
            lendAndFail(x, 0);
            due("after " + x.task(0, TRIES), waitOf(x, 0), wait);
            x.tick(wait);
        }
    }

    private void atMostTop() {
        int[] tops = {27, 28, 29, 6, 7, 8, 1};
        int[] waits = {27, 28, 28, 6, 7, 8, 1};
        for (int i = 0; i < tops.length; i++) {
            LoanRounds x = new LoanRounds();
            x.set(BASE, 0, 7);
            x.set(TOP, 0, tops[i]);
            plain(x);
            for (int tries = 1; tries <= 2; tries++) {
                lendAndFail(x, 0);
                x.tick(waitOf(x, 0));
            }
            lendAndFail(x, 0);
            due("28 at most " + tops[i], waitOf(x, 0), waits[i]);
        }
    }

    private void topBelowBase() {
        for (int top : new int[] {1, 99, 100, 101}) {
            LoanRounds x = new LoanRounds();
            x.set(BASE, 0, 100);
            x.set(TOP, 0, top);
            plain(x);
            lendAndFail(x, 0);
            due("100 at most " + top, waitOf(x, 0), Math.min(100, top));
        }
    }

    private void topHoldsForManyTries() {
        for (int top : new int[] {999, 1000}) {
            LoanRounds x = new LoanRounds();
            x.set(MOST, 0, 20);
            x.set(BASE, 0, 100);
            x.set(TOP, 0, top);
            plain(x);
            for (int tries = 1; tries <= 19; tries++) {
                lendAndFail(x, 0);
                int wait = tries <= 4 ? 100 << (tries - 1) : top;
                due("after " + tries, waitOf(x, 0), wait);
                x.tick(wait);
            }
        }
    }

    private void run() {
        sentence("An object is used for at most 512 calls (TIME)", this::theFarthestTime);
        sentence("An object is used for at most 512 calls (tokens)", this::theGreatestToken);
        sentence("TIME is in ticks, 0 at first", this::time);
        sentence("QUEUES are 0 .. 3", this::queues);
        sentence("WORKERS 0 .. 7", this::workers);
        sentence("GROUPS 0 .. 7", this::groups);
        sentence("TASKS are numbered from 0 on as they come", this::taskNumbers);
        sentence("at most 400 ever", this::atMost400Tasks);
        sentence("a RANK (0 .. 3)", this::ranks);
        sentence("a GROUP (or none)", this::orNoGroup);
        sentence("a KEY (0: none)", this::keys);
        sentence("a number of TRIES (0 at first)", this::noTriesAtFirst);
        sentence("tokens are numbered from 0 on as tasks are lent", this::tokenNumbers);
        sentence("It is LIVE while it is WAITING or LENT", this::liveStates);
        sentence("at most 64 TASKS are LIVE", this::atMost64Live);
        sentence("LOAN (ticks, 1 .. 200, 10 at first)", () -> setting(LOAN, 1, 200, 10));
        sentence("MOST (tries, 1 .. 20, 5 at first)", () -> setting(MOST, 1, 20, 5));
        sentence("BASE (ticks, 1 .. 100, 1 at first)", () -> setting(BASE, 1, 100, 1));
        sentence("TOP (ticks, 1 .. 1000, 60 at first)", () -> setting(TOP, 1, 1000, 60));
        sentence("GROWTH (ticks, 0 .. 100, 0 at first: none)", () -> setting(GROWTH, 0, 100, 0));
        sentence("MEMORY (ticks, 0 .. 1000, 0 at first)", () -> setting(MEMORY, 0, 1000, 0));
        sentence("A GROUP has a LIMIT (0 .. 8, 8 at first)", () -> setting(LIMIT, 0, 8, 8));
        sentence("What is set holds for what comes behind that", this::setHoldsBehindThat);
        sentence("What is set holds for what comes behind that (LIMIT)", this::limitHoldsBehindThat);
        sentence("DUE and END of a TASK stay", this::dueAndEndStay);
        sentence("A TASK may be HAD if it is WAITING", this::onlyTheWaitingMayBeHad);
        sentence("its DUE is not above TIME", this::dueNotAboveTime);
        sentence("and it has no GROUP", this::noGroupNoLimit);
        sentence("or fewer TASKS of its GROUP are LENT (from any QUEUE) than its LIMIT", this::fewerLentThanLimit);
        sentence("fewer TASKS of its GROUP are LENT (behind a loan)", this::loansThatEndFreeTheGroup);
        sentence("1 for each whole GROWTH of ticks", this::oneForEachWholeGrowth);
        sentence("from DUE to TIME", this::growthCountsFromTheNewDue);
        sentence("(without GROWTH none)", this::withoutGrowthNone);
        sentence("but at most 9", this::atMostNine);
        sentence("the one of the greatest WEIGHT", this::greatestWeight);
        sentence("the one of the greatest WEIGHT, of these (as they meet)", this::weightMeetsWeight);
        sentence("the one of the greatest WEIGHT, of these (at most 9)", this::cappedWeightsAreAlike);
        sentence("of these of the least DUE", this::leastDue);
        sentence("of these of the least number", this::leastNumber);
        sentence("if its TRIES are MOST", this::deadAtMost);
        sentence("or more, it is DEAD", this::deadAboveMost);
        sentence("else it is WAITING, DUE at TIME and BASE * 2^(TRIES - 1)", this::baseDoubles);
        sentence("but at most TOP, ticks", this::atMostTop);
        sentence("but at most TOP, ticks (after the first TRY)", this::topBelowBase);
        sentence("but at most TOP, ticks (for many TRIES)", this::topHoldsForManyTries);
        close();
    }

    public static void main(String[] args) {
        new TermsEdgesTest().run();
    }
}
