import java.util.ArrayList;
import java.util.NoSuchElementException;

/** Queues of tasks that are lent to workers; ../shared/DOC.md explains the words in capitals. */
public final class LoanRounds {
    public static final int NONE = -1;

    private static final int QUEUES = 4;
    private static final int WORKERS = 8;
    private static final int GROUPS = 8;
    private static final int MOST_TASKS = 400;
    private static final int MOST_LIVE = 64;
    private static final int MOST_LOANS = 4;
    private static final int GREATEST_RANK = 3;
    private static final int GREATEST_DELAY = 1000;
    private static final int GREATEST_TICKS = 1000;
    private static final int GREATEST_LIMIT = 8;
    private static final int GREATEST_WEIGHT = 9;

    private static final int WAITING = 0;
    private static final int LENT = 1;
    private static final int DONE = 2;
    private static final int DEAD = 3;
    private static final int GONE = 4;

    private static final int HOW_DONE = 0;
    private static final int HOW_FAILED = 1;
    private static final int HOW_BACK = 2;

    private static final int SET_LOAN = 0;
    private static final int SET_MOST = 1;
    private static final int SET_BASE = 2;
    private static final int SET_TOP = 3;
    private static final int SET_GROWTH = 4;
    private static final int SET_MEMORY = 5;
    private static final int SET_LIMIT = 6;

    private static final int TELL_STATE = 0;
    private static final int TELL_TRIES = 1;
    private static final int TELL_DUE = 2;
    private static final int TELL_END = 3;
    private static final int TELL_WORKER = 4;
    private static final int TELL_TOKEN = 5;
    private static final int TELL_WEIGHT = 6;

    private static final int COUNT_TIME = 0;
    private static final int COUNT_CAME = 1;
    private static final int COUNT_LIVE = 2;
    private static final int COUNT_LENT = 3;
    private static final int COUNT_DEAD = 4;
    private static final int COUNT_WORKERS = 5;
    private static final int COUNT_GROUPS = 13;
    private static final int COUNT_QUEUES = 21;

    private final Queue[] queues = new Queue[QUEUES];
    private final Group[] groups = new Group[GROUPS];
    private final ArrayList<Task> tasks = new ArrayList<>();
    private int time = 0;
    private int tokens = 0;

    private static final class Queue {
        int loan = 10;
        int most = 5;
        int base = 1;
        int top = 60;
        int growth = 0;
        int memory = 0;

        boolean change(int what, int v) {
            if (!mayBe(what, v)) {
                return false;
            }
            switch (what) {
                case SET_LOAN: loan = v; break;
                case SET_MOST: most = v; break;
                case SET_BASE: base = v; break;
                case SET_TOP: top = v; break;
                case SET_GROWTH: growth = v; break;
                case SET_MEMORY: memory = v; break;
                default: return false;
            }
            return true;
        }

        private static boolean mayBe(int what, int v) {
            switch (what) {
                case SET_LOAN: return within(v, 1, 200);
                case SET_MOST: return within(v, 1, 20);
                case SET_BASE: return within(v, 1, 100);
                case SET_TOP: return within(v, 1, 1000);
                case SET_GROWTH: return within(v, 0, 100);
                case SET_MEMORY: return within(v, 0, 1000);
                default: return false;
            }
        }

        // Asked only for 1 to 19 tries (fewer than MOST), so the shifted BASE stays far inside an int.
        int pauseAfter(int tries) {
            return Math.min(base << (tries - 1), top);
        }
    }

    private static final class Group {
        int limit = GREATEST_LIMIT;
        int lent = 0;
    }

    private static final class Task {
        final int number;
        final Queue queue;
        final int rank;
        final Group group;
        final long key;
        int state = WAITING;
        int tries = 0;
        int dueAt;
        int endsAt = NONE;
        int worker = NONE;
        int token = NONE;
        int doneAt = NONE;

        Task(int number, Queue queue, int rank, Group group, long key, int dueAt) {
            this.number = number;
            this.queue = queue;
            this.rank = rank;
            this.group = group;
            this.key = key;
            this.dueAt = dueAt;
        }

        boolean isLive() {
            return state == WAITING || state == LENT;
        }

        boolean isDue(int now) {
            return state == WAITING && dueAt <= now;
        }

        boolean mayBeHad(int now) {
            return isDue(now) && (group == null || group.lent < group.limit);
        }

        boolean holdsKey(int now) {
            return isLive() || (state == DONE && now - doneAt <= queue.memory);
        }

        int weight(int now) {
            int grown = queue.growth > 0 ? (now - dueAt) / queue.growth : 0;
            return Math.min(rank + grown, GREATEST_WEIGHT);
        }

        boolean goesBefore(Task other, int now) {
            int mine = weight(now);
            int its = other.weight(now);
            if (mine != its) {
                return mine > its;
            }
            return dueAt != other.dueAt ? dueAt < other.dueAt : number < other.number;
        }

        // Every change of state goes through here, so that the group's number of LENT ones stays right.
        void become(int newState) {
            if (group != null && state == LENT) {
                group.lent--;
            }
            if (group != null && newState == LENT) {
                group.lent++;
            }
            state = newState;
        }

        void becomeWaiting(int due) {
            become(WAITING);
            dueAt = due;
        }

        void becomeLent(int toWorker, int withToken, int now) {
            become(LENT);
            tries++;
            worker = toWorker;
            token = withToken;
            endsAt = now + queue.loan;
        }

        void becomeDone(int now) {
            become(DONE);
            doneAt = now;
        }

        void tryAgain(int now) {
            if (tries >= queue.most) {
                become(DEAD);
            } else {
                becomeWaiting(now + queue.pauseAfter(tries));
            }
        }

        int comesAt() {
            if (state == WAITING) {
                return dueAt;
            }
            return state == LENT ? endsAt : NONE;
        }
    }

    public LoanRounds() {
        for (int i = 0; i < queues.length; i++) {
            queues[i] = new Queue();
        }
        for (int i = 0; i < groups.length; i++) {
            groups[i] = new Group();
        }
    }

    public int add(int queue, int rank, int group, long key, int delay)
            throws IllegalArgumentException, IllegalStateException {
        Queue its = queueAt(queue);
        if (its == null || !within(rank, 0, GREATEST_RANK) || !within(delay, 0, GREATEST_DELAY)) {
            throw new IllegalArgumentException("no such queue, rank or delay");
        }
        if (group != NONE && groupAt(group) == null) {
            throw new IllegalArgumentException("no such group");
        }
        int known = key == 0 ? NONE : numberUnder(its, key);
        if (known != NONE) {
            return known;
        }
        if (liveTasks() >= MOST_LIVE || tasks.size() >= MOST_TASKS) {
            throw new IllegalStateException("no room for one more task");
        }
        int number = tasks.size();
        tasks.add(new Task(number, its, rank, groupAt(group), key, time + delay));
        return number;
    }

    public int lend(int worker, int queue) throws IllegalArgumentException {
        Queue its = queueAt(queue);
        if (its == null || !isWorker(worker)) {
            throw new IllegalArgumentException("no such queue or worker");
        }
        Task task = firstOf(its);
        if (task == null || lentTo(worker) >= MOST_LOANS) {
            return NONE;
        }
        int token = tokens++;
        task.becomeLent(worker, token, time);
        return token;
    }

    public boolean beat(int token) {
        Task task = lentWith(token);
        if (task == null) {
            return false;
        }
        task.endsAt = time + task.queue.loan;
        return true;
    }

    public int end(int token, int how) throws NoSuchElementException, IllegalArgumentException {
        Task task = lentWith(token);
        if (task == null) {
            throw new NoSuchElementException("nothing is lent with this token");
        }
        switch (how) {
            case HOW_DONE:
                task.becomeDone(time);
                break;
            case HOW_FAILED:
                task.tryAgain(time);
                break;
            case HOW_BACK:
                task.becomeWaiting(time);
                task.tries--;
                break;
            default:
                throw new IllegalArgumentException("no such how");
        }
        return task.number;
    }

    // To try a task again touches nothing but that task and its group's number of LENT ones, and nothing
    // is lent in between: so each may be taken at its own END at once, as if the ticks had come one by one.
    public int tick(int n) throws IllegalArgumentException {
        if (!within(n, 1, GREATEST_TICKS)) {
            throw new IllegalArgumentException("no such number of ticks");
        }
        int until = time + n;
        int tried = 0;
        for (int i = 0; i < tasks.size(); i++) {
            Task task = tasks.get(i);
            if (task.state == LENT && task.endsAt <= until) {
                task.tryAgain(task.endsAt);
                tried++;
            }
        }
        time = until;
        return tried;
    }

    public boolean cancel(int task) {
        Task its = taskAt(task);
        if (its == null || !its.isLive()) {
            return false;
        }
        its.become(GONE);
        return true;
    }

    public boolean revive(int task) {
        Task its = taskAt(task);
        if (its == null || its.state != DEAD || liveTasks() >= MOST_LIVE) {
            return false;
        }
        its.becomeWaiting(time);
        its.tries = 0;
        return true;
    }

    public boolean set(int what, int which, int v) {
        if (what == SET_LIMIT) {
            return changeLimit(groupAt(which), v);
        }
        Queue queue = queueAt(which);
        return queue != null && queue.change(what, v);
    }

    public int task(int task, int what) throws NoSuchElementException {
        Task its = taskAt(task);
        if (its == null) {
            throw new NoSuchElementException("no such task");
        }
        switch (what) {
            case TELL_STATE: return its.state;
            case TELL_TRIES: return its.tries;
            case TELL_DUE: return its.state == WAITING ? its.dueAt : NONE;
            case TELL_END: return its.state == LENT ? its.endsAt : NONE;
            case TELL_WORKER: return its.state == LENT ? its.worker : NONE;
            case TELL_TOKEN: return its.state == LENT ? its.token : NONE;
            case TELL_WEIGHT: return its.isDue(time) ? its.weight(time) : NONE;
            default: throw new NoSuchElementException("no such what");
        }
    }

    public int first(int queue) {
        Queue its = queueAt(queue);
        Task task = its == null ? null : firstOf(its);
        return task == null ? NONE : task.number;
    }

    public int next() {
        int least = NONE;
        for (int i = 0; i < tasks.size(); i++) {
            int at = tasks.get(i).comesAt();
            if (at > time && (least == NONE || at < least)) {
                least = at;
            }
        }
        return least;
    }

    public int count(int what) {
        switch (what) {
            case COUNT_TIME: return time;
            case COUNT_CAME: return tasks.size();
            case COUNT_LIVE: return liveTasks();
            case COUNT_LENT: return tasksThatAre(LENT);
            case COUNT_DEAD: return tasksThatAre(DEAD);
            default: return countOfOne(what);
        }
    }

    private int countOfOne(int what) {
        if (isWorker(what - COUNT_WORKERS)) {
            return lentTo(what - COUNT_WORKERS);
        }
        Group group = groupAt(what - COUNT_GROUPS);
        if (group != null) {
            return group.lent;
        }
        Queue queue = queueAt(what - COUNT_QUEUES);
        return queue == null ? NONE : waitingIn(queue);
    }

    private static boolean within(int v, int least, int greatest) {
        return v >= least && v <= greatest;
    }

    private static boolean isWorker(int number) {
        return within(number, 0, WORKERS - 1);
    }

    private static boolean changeLimit(Group group, int v) {
        if (group == null || !within(v, 0, GREATEST_LIMIT)) {
            return false;
        }
        group.limit = v;
        return true;
    }

    private Queue queueAt(int number) {
        return within(number, 0, queues.length - 1) ? queues[number] : null;
    }

    private Group groupAt(int number) {
        return within(number, 0, groups.length - 1) ? groups[number] : null;
    }

    private Task taskAt(int number) {
        return within(number, 0, tasks.size() - 1) ? tasks.get(number) : null;
    }

    private Task lentWith(int token) {
        for (int i = 0; i < tasks.size(); i++) {
            Task task = tasks.get(i);
            if (task.state == LENT && task.token == token) {
                return task;
            }
        }
        return null;
    }

    // From the greatest number down, because of several the greatest is the answer.
    private int numberUnder(Queue queue, long key) {
        for (int i = tasks.size() - 1; i >= 0; i--) {
            Task task = tasks.get(i);
            if (task.queue == queue && task.key == key && task.holdsKey(time)) {
                return i;
            }
        }
        return NONE;
    }

    private Task firstOf(Queue queue) {
        Task best = null;
        for (int i = 0; i < tasks.size(); i++) {
            Task task = tasks.get(i);
            if (task.queue == queue && task.mayBeHad(time) && (best == null || task.goesBefore(best, time))) {
                best = task;
            }
        }
        return best;
    }

    private int liveTasks() {
        return tasksThatAre(WAITING) + tasksThatAre(LENT);
    }

    private int tasksThatAre(int state) {
        int found = 0;
        for (int i = 0; i < tasks.size(); i++) {
            if (tasks.get(i).state == state) {
                found++;
            }
        }
        return found;
    }

    private int lentTo(int worker) {
        int found = 0;
        for (int i = 0; i < tasks.size(); i++) {
            Task task = tasks.get(i);
            if (task.state == LENT && task.worker == worker) {
                found++;
            }
        }
        return found;
    }

    private int waitingIn(Queue queue) {
        int found = 0;
        for (int i = 0; i < tasks.size(); i++) {
            Task task = tasks.get(i);
            if (task.state == WAITING && task.queue == queue) {
                found++;
            }
        }
        return found;
    }
}
