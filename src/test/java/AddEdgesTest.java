/** The boundary cases that the document's promises 1 and 2 name: for each such sentence a test of its own. */
public final class AddEdgesTest extends Cases {
    private AddEdgesTest() {
        super("AddEdgesTest");
    }

    // ---- promise 1

    private void nothingIsThere() {
        for (int what = 0; what <= 24; what++) {
            int at = what;
            idle("count " + what, FRESH, x -> x.count(at), 0);
        }
        for (int q = 0; q < 4; q++) {
            int at = q;
            idle("first of " + q, FRESH, x -> x.first(at), NONE);
            idle("lend of " + q, FRESH, x -> x.lend(0, at), NONE);
        }
        idle("next", FRESH, x -> x.next(), NONE);
        idle("beat", FRESH, x -> x.beat(0), false);
        idle("cancel", FRESH, x -> x.cancel(0), false);
        idle("revive", FRESH, x -> x.revive(0), false);
        idle("task", FRESH, x -> x.task(0, STATE), NO_SUCH);
        idle("end", FRESH, x -> x.end(0, DONE_SO), NO_SUCH);
        due("tick", new LoanRounds().tick(1000), 0);
        due("add", plain(new LoanRounds()), 0);
    }

    // ---- promise 2

    private void dueAfterSoManyTicks() {
        for (int delay : new int[] {0, 1, 1000}) {
            LoanRounds x = new LoanRounds();
            due("its number", x.add(0, 0, NONE, 0, delay), 0);
            due("at TIME 0 after " + delay, x.task(0, DUE), delay);
            x.tick(7);
            due("the next number", x.add(0, 0, NONE, 0, delay), 1);
            due("at TIME 7 after " + delay, x.task(1, DUE), 7 + delay);
        }
    }

    private void keyZeroIsNone() {
        LoanRounds x = new LoanRounds();
        x.set(MEMORY, 0, 1000);
        under(x, 0);
        due("beside a waiting one", under(x, 0), 1);
        x.lend(0, 0);
        due("beside a lent one", under(x, 0), 2);
        x.end(0, DONE_SO);
        due("beside a done one", under(x, 0), 3);
    }

    private void ofThisQueueWithThisKey() {
        LoanRounds x = new LoanRounds();
        for (int q = 0; q < 4; q++) due("in queue " + q, x.add(q, 0, NONE, 7, 0), q);
        for (int q = 0; q < 4; q++) due("in queue " + q + " again", x.add(q, 0, NONE, 7, 0), q);
        long[] others = {6, 8, -7, 7 + (1L << 32), 7 - (1L << 32), 7 | Long.MIN_VALUE};
        for (int i = 0; i < others.length; i++) due("the key " + others[i], under(x, others[i]), 4 + i);
    }

    private void isLive() {
        idle("waiting, not due", x -> x.add(0, 0, NONE, 7, 5), x -> x.add(0, 3, 2, 7, 9), 0);
        idle("waiting, due", x -> under(x, 7), x -> x.add(0, 3, 2, 7, 9), 0);
        idle("lent", x -> {
            under(x, 7);
            x.lend(0, 0);
        }, x -> x.add(0, 3, 2, 7, 9), 0);
        idle("waiting again", x -> {
            under(x, 7);
            x.end(x.lend(0, 0), FAILED);
        }, x -> x.add(0, 3, 2, 7, 9), 0);
        idle("live without MEMORY, long ago", x -> {
            under(x, 7);
            x.tick(1000);
        }, x -> x.add(0, 3, 2, 7, 9), 0);
    }

    private void deadOrGoneIsNotLive() {
        LoanRounds x = new LoanRounds();
        x.set(MEMORY, 0, 1000);
        under(x, 7);
        die(x, 0, x.lend(0, 0), 5);
        due("dead", under(x, 7), 1);
        x.cancel(1);
        due("gone while it waited", under(x, 7), 2);
        x.lend(0, 0);
        x.cancel(2);
        due("gone while it was lent", under(x, 7), 3);
    }

    private void notMoreThanMemoryAgo() {
        for (int memory : new int[] {0, 1, 5, 1000}) {
            Twins.Making done = x -> {
                x.set(MEMORY, 0, memory);
                under(x, 7);
                x.tick(4);
                x.lend(0, 0);
                x.tick(5);
                x.end(0, DONE_SO);
            };
            idle("at once, MEMORY " + memory, done, x -> x.add(0, 3, 2, 7, 9), 0);
            LoanRounds x = Twins.made(done);
            if (memory > 0) x.tick(memory);
            due(memory + " ticks ago", under(x, 7), 0);
            due("nothing came", x.count(CAME), 1);
            x.tick(1);
            due("one tick more than " + memory, under(x, 7), 1);
            due("it came", x.count(CAME), 2);
        }
    }

    private void memoryOfItsQueueAsItIsNow() {
        LoanRounds x = new LoanRounds();
        x.set(MEMORY, 1, 1000);
        for (int q = 0; q < 2; q++) {
            x.add(q, 0, NONE, 7, 0);
            x.end(x.lend(0, q), DONE_SO);
        }
        x.tick(10);
        due("in the queue with MEMORY", x.add(1, 0, NONE, 7, 0), 1);
        due("in the queue without it", x.add(0, 0, NONE, 7, 0), 2);
        x.set(MEMORY, 1, 9);
        due("MEMORY is less now", x.add(1, 0, NONE, 7, 0), 3);
        x.cancel(3);
        x.set(MEMORY, 1, 10);
        due("MEMORY is more now, and the gone one is none", x.add(1, 0, NONE, 7, 0), 1);
    }

    /** Two tasks, 0 and 1, are live under one key: 0 died, 1 came, and 0 was revived. */
    private static void twoUnderOneKey(LoanRounds x) {
        x.set(MEMORY, 0, 10);
        x.add(0, 0, NONE, 7, 0);
        die(x, 0, x.lend(0, 0), 5);
        x.add(0, 1, NONE, 7, 0);
        x.revive(0);
    }

    private static void bothDone(LoanRounds x, int firstDone, int ticksBetween) {
        twoUnderOneKey(x);
        x.lend(0, 0);
        x.lend(0, 0);
        x.end(x.task(firstDone, TOKEN), DONE_SO);
        if (ticksBetween > 0) x.tick(ticksBetween);
        x.end(x.task(1 - firstDone, TOKEN), DONE_SO);
    }

    private void theGreatestOfSeveral() {
        idle("both live", AddEdgesTest::twoUnderOneKey, x -> under(x, 7), 1);
        idle("1 done, 0 live", x -> {
            twoUnderOneKey(x);
            x.end(x.lend(0, 0), DONE_SO);
        }, x -> under(x, 7), 1);
        idle("0 done, 1 live", x -> {
            twoUnderOneKey(x);
            x.lend(0, 0);
            x.end(x.lend(0, 0), DONE_SO);
        }, x -> under(x, 7), 1);
        idle("0 done, then 1", x -> bothDone(x, 0, 5), x -> under(x, 7), 1);
        idle("1 done, then 0", x -> bothDone(x, 1, 5), x -> under(x, 7), 1);
        idle("1 gone, 0 live", x -> {
            twoUnderOneKey(x);
            x.cancel(1);
        }, x -> under(x, 7), 0);
    }

    private void theGreatestOfThoseRemembered() {
        LoanRounds x = Twins.made(y -> bothDone(y, 1, 5));
        x.tick(5);
        due("1 was done 10 ago, 0 was done 5 ago", under(x, 7), 1);
        x.tick(1);
        due("1 was done 11 ago, 0 was done 6 ago", under(x, 7), 0);
        x.tick(4);
        due("0 was done 10 ago", under(x, 7), 0);
        x.tick(1);
        due("0 was done 11 ago", under(x, 7), 2);
    }

    private void knownWhereThereIsNoRoom() {
        for (int i : new int[] {0, 1, 62, 63}) {
            idle("64 are live, one of them has the key", FULL, x -> x.add(i % 4, 0, NONE, i + 1, 0), i);
        }
        idle("64 are live, a done one had the key", x -> {
            x.set(MEMORY, 0, 1000);
            under(x, 99);
            x.end(x.lend(0, 0), DONE_SO);
            full(x);
        }, x -> under(x, 99), 0);
        idle("400 came, a live one has the key", ALL_CAME, x -> under(x, 5), 399);
        idle("400 came, a done one had the key", x -> {
            allCame(x);
            x.end(x.lend(0, 0), DONE_SO);
        }, x -> under(x, 5), 399);
    }

    private void addOfNoSuch() {
        for (int bad : outside(0, 3)) {
            idleAnywhere("queue " + bad, x -> x.add(bad, 0, NONE, 4, 0), REFUSED);
            idleAnywhere("rank " + bad, x -> x.add(0, bad, NONE, 4, 0), REFUSED);
        }
        for (int bad : outside(NONE, 7)) idleAnywhere("group " + bad, x -> x.add(0, 0, bad, 4, 0), REFUSED);
        idle("queue 4 where there is no room", FULL, x -> x.add(4, 0, NONE, 0, 0), REFUSED);
        idle("rank 4 where there is no room", FULL, x -> x.add(0, 4, NONE, 0, 0), REFUSED);
        idle("group 8 where there is no room", FULL, x -> x.add(0, 0, 8, 0, 0), REFUSED);
        idle("group 8 where 400 came", ALL_CAME, x -> x.add(0, 0, 8, 0, 0), REFUSED);
    }

    private void delays() {
        for (int bad : outside(0, 1000)) {
            idleAnywhere("delay " + bad, x -> x.add(0, 0, NONE, 0, bad), REFUSED);
            idle("delay " + bad + " under a known key", BUSY, x -> x.add(0, 0, NONE, 4, bad), REFUSED);
            idle("delay " + bad + " where there is no room", FULL, x -> x.add(0, 0, NONE, 0, bad), REFUSED);
        }
        due("delay 0", new LoanRounds().add(0, 0, NONE, 0, 0), 0);
        due("delay 1000", new LoanRounds().add(0, 0, NONE, 0, 1000), 0);
    }

    private void sixtyFourAreLive() {
        Twins.Making allButOne = x -> {
            full(x);
            x.cancel(63);
        };
        due("63 are live", plain(Twins.made(allButOne)), 64);
        idle("64 wait", FULL, x -> plain(x), NO_ROOM);
        idle("64 wait, a key that is new", FULL, x -> under(x, 1000), NO_ROOM);
        idle("64 wait, a key of another queue", FULL, x -> under(x, 2), NO_ROOM);
        idle("32 wait, 32 are lent", x -> {
            full(x);
            for (int i = 0; i < 32; i++) x.lend(i / 4, i % 4);
        }, x -> plain(x), NO_ROOM);
    }

    private void aPlaceIsFreeAgain() {
        for (int way = 0; way <= 4; way++) {
            LoanRounds x = Twins.made(FULL);
            x.set(MOST, 0, 1);
            x.lend(0, 0);
            noRoom("one is lent", () -> plain(x));
            if (way <= BACK) x.end(0, way);
            if (way == 3) x.tick(10);
            if (way == 4) x.cancel(0);
            if (way == BACK) noRoom("it came back", () -> plain(x));
            else due("it is no more, way " + way, plain(x), 64);
        }
    }

    // 400 tasks take more than 512 calls, after which answers are free; the limit is kept there too.
    private void fourHundredCame() {
        LoanRounds x = new LoanRounds();
        for (int i = 0; i < 399; i++) x.cancel(plain(x));
        due("399 came", plain(x), 399);
        idle("400 came", ALL_CAME, y -> plain(y), NO_ROOM);
        idle("400 came, a key that is new", ALL_CAME, y -> under(y, 6), NO_ROOM);
        idle("400 came, none is live", y -> {
            allCame(y);
            y.cancel(399);
        }, y -> plain(y), NO_ROOM);
    }

    private void run() {
        sentence("1: Nothing is there", this::nothingIsThere);
        sentence("2: A TASK comes, DUE after so many ticks: its number", this::dueAfterSoManyTicks);
        sentence("2: If key is not 0", this::keyZeroIsNone);
        sentence("2: a TASK of this QUEUE with this KEY", this::ofThisQueueWithThisKey);
        sentence("2: is LIVE, nothing comes: its number", this::isLive);
        sentence("2: is LIVE (DEAD and GONE are not)", this::deadOrGoneIsNotLive);
        sentence("2: or became DONE not more than MEMORY ticks ago", this::notMoreThanMemoryAgo);
        sentence("2: MEMORY ticks ago (of this QUEUE)", this::memoryOfItsQueueAsItIsNow);
        sentence("2: the greatest, of several", this::theGreatestOfSeveral);
        sentence("2: the greatest, of several (of those that count)", this::theGreatestOfThoseRemembered);
        sentence("2: also where there is no room", this::knownWhereThereIsNoRoom);
        sentence("2: there is no such QUEUE, RANK or GROUP (NONE is none)", this::addOfNoSuch);
        sentence("2: or delay is not 0 .. 1000", this::delays);
        sentence("2: IllegalStateException: 64 are LIVE", this::sixtyFourAreLive);
        sentence("2: 64 are LIVE (and fewer again)", this::aPlaceIsFreeAgain);
        sentence("2: or 400 came", this::fourHundredCame);
        close();
    }

    public static void main(String[] args) {
        new AddEdgesTest().run();
    }
}
