import java.util.ArrayList;
import java.util.List;
import java.util.Random;

/** Long runs of drawn calls: the class must answer as a model does that follows the document word by word. */
public final class ModelTest {
    private static final int NONE = -1;
    private static final int RUNS = 400;
    private static final int CALLS = 512;

    private static final String ARGUMENT = "IllegalArgumentException";
    private static final String STATE = "IllegalStateException";
    private static final String ELEMENT = "NoSuchElementException";

    private static final class One {
        int queue, rank, group, tries, due, end, worker, token, doneAt;
        long key;
        String is = "WAITING";

        boolean live() {
            return is.equals("WAITING") || is.equals("LENT");
        }
    }

    /** It answers with a text: the number, or the name of the exception. */
    private static final class Model {
        final List<One> all = new ArrayList<>();
        final int[][] queues = new int[4][];
        final int[] limits = {8, 8, 8, 8, 8, 8, 8, 8};
        int time = 0;
        int tokens = 0;

        Model() {
            for (int q = 0; q < 4; q++) queues[q] = new int[] {10, 5, 1, 60, 0, 0};
        }

        long live() {
            return all.stream().filter(One::live).count();
        }

        long lentOf(int group) {
            return all.stream().filter(t -> t.is.equals("LENT") && t.group == group).count();
        }

        long lentTo(int worker) {
            return all.stream().filter(t -> t.is.equals("LENT") && t.worker == worker).count();
        }

        int weight(One t) {
            int weight = t.rank;
            int growth = queues[t.queue][4];
            if (growth != 0) {
                for (int at = t.due + growth; at <= time; at += growth) weight++;
            }
            return weight > 9 ? 9 : weight;
        }

        int first(int queue) {
            int best = NONE;
            for (int i = 0; i < all.size(); i++) {
                One t = all.get(i);
                if (t.queue != queue || !t.is.equals("WAITING") || t.due > time) continue;
                if (t.group != NONE && lentOf(t.group) >= limits[t.group]) continue;
                if (best == NONE) {
                    best = i;
                    continue;
                }
                One b = all.get(best);
                if (weight(t) > weight(b) || (weight(t) == weight(b) && t.due < b.due)) best = i;
            }
            return best;
        }

        One lentWith(int token) {
            for (One t : all) if (t.is.equals("LENT") && t.token == token) return t;
            return null;
        }

        void again(One t) {
            if (t.tries >= queues[t.queue][1]) {
                t.is = "DEAD";
                return;
            }
            double wait = queues[t.queue][2] * Math.pow(2, t.tries - 1);
            t.is = "WAITING";
            t.due = time + (int) Math.min(wait, queues[t.queue][3]);
        }

        String add(int queue, int rank, int group, long key, int delay) {
            if (queue < 0 || queue > 3 || rank < 0 || rank > 3 || group < -1 || group > 7) return ARGUMENT;
            if (delay < 0 || delay > 1000) return ARGUMENT;
            int known = NONE;
            for (int i = 0; i < all.size() && key != 0; i++) {
                One t = all.get(i);
                if (t.queue != queue || t.key != key) continue;
                if (t.live() || (t.is.equals("DONE") && time - t.doneAt <= queues[queue][5])) known = i;
            }
            if (known != NONE) return "" + known;
            if (live() >= 64 || all.size() >= 400) return STATE;
            One t = new One();
            t.queue = queue;
            t.rank = rank;
            t.group = group;
            t.key = key;
            t.due = time + delay;
            all.add(t);
            return "" + (all.size() - 1);
        }

        String lend(int worker, int queue) {
            if (worker < 0 || worker > 7 || queue < 0 || queue > 3) return ARGUMENT;
            int number = first(queue);
            if (number == NONE || lentTo(worker) == 4) return "-1";
            One t = all.get(number);
            t.is = "LENT";
            t.worker = worker;
            t.end = time + queues[queue][0];
            t.tries++;
            t.token = tokens++;
            return "" + t.token;
        }

        String beat(int token) {
            One t = lentWith(token);
            if (t == null) return "false";
            t.end = time + queues[t.queue][0];
            return "true";
        }

        String end(int token, int how) {
            One t = lentWith(token);
            if (t == null) return ELEMENT;
            if (how < 0 || how > 2) return ARGUMENT;
            if (how == 0) {
                t.is = "DONE";
                t.doneAt = time;
            } else if (how == 1) {
                again(t);
            } else {
                t.is = "WAITING";
                t.due = time;
                t.tries--;
            }
            return "" + all.indexOf(t);
        }

        String tick(int n) {
            if (n < 1 || n > 1000) return ARGUMENT;
            int tried = 0;
            for (int k = 0; k < n; k++) {
                time++;
                for (One t : all) {
                    if (t.is.equals("LENT") && t.end <= time) {
                        again(t);
                        tried++;
                    }
                }
            }
            return "" + tried;
        }

        String cancel(int task) {
            if (task < 0 || task >= all.size() || !all.get(task).live()) return "false";
            all.get(task).is = "GONE";
            return "true";
        }

        String revive(int task) {
            if (task < 0 || task >= all.size() || !all.get(task).is.equals("DEAD") || live() >= 64) return "false";
            One t = all.get(task);
            t.is = "WAITING";
            t.due = time;
            t.tries = 0;
            return "true";
        }

        String set(int what, int which, int v) {
            int[] least = {1, 1, 1, 1, 0, 0, 0};
            int[] greatest = {200, 20, 100, 1000, 100, 1000, 8};
            if (what < 0 || what > 6 || v < least[what] || v > greatest[what]) return "false";
            if (which < 0 || which >= (what == 6 ? 8 : 4)) return "false";
            if (what == 6) limits[which] = v;
            else queues[which][what] = v;
            return "true";
        }

        String task(int task, int what) {
            if (task < 0 || task >= all.size() || what < 0 || what > 6) return ELEMENT;
            One t = all.get(task);
            boolean waiting = t.is.equals("WAITING");
            boolean lent = t.is.equals("LENT");
            switch (what) {
                case 0: return "" + List.of("WAITING", "LENT", "DONE", "DEAD", "GONE").indexOf(t.is);
                case 1: return "" + t.tries;
                case 2: return "" + (waiting ? t.due : NONE);
                case 3: return "" + (lent ? t.end : NONE);
                case 4: return "" + (lent ? t.worker : NONE);
                case 5: return "" + (lent ? t.token : NONE);
                default: return "" + (waiting && t.due <= time ? weight(t) : NONE);
            }
        }

        String next() {
            int best = Integer.MAX_VALUE;
            for (One t : all) {
                if (t.is.equals("WAITING") && t.due > time) best = Math.min(best, t.due);
                if (t.is.equals("LENT") && t.end > time) best = Math.min(best, t.end);
            }
            return best == Integer.MAX_VALUE ? "-1" : "" + best;
        }

        String count(int what) {
            if (what == 0) return "" + time;
            if (what == 1) return "" + all.size();
            if (what == 2) return "" + live();
            if (what == 3) return "" + all.stream().filter(t -> t.is.equals("LENT")).count();
            if (what == 4) return "" + all.stream().filter(t -> t.is.equals("DEAD")).count();
            if (what >= 5 && what <= 12) return "" + lentTo(what - 5);
            if (what >= 13 && what <= 20) return "" + lentOf(what - 13);
            if (what < 21 || what > 24) return "-1";
            return "" + all.stream().filter(t -> t.is.equals("WAITING") && t.queue == what - 21).count();
        }
    }

    private static String told(Checks.Call call) {
        return Checks.told(call);
    }

    /** One run: calls drawn by a seed, so that every run can be had again. */
    private static final class Run {
        final int seed;
        final Random random;
        final LoanRounds x = new LoanRounds();
        final Model m = new Model();
        final boolean crowded;
        final int keys;
        int call = 0;

        Run(int seed) {
            this.seed = seed;
            random = new Random(seed);
            crowded = random.nextInt(3) == 0;
            keys = 1 + random.nextInt(6);
        }

        boolean same(String what, String got, String want) {
            if (got.equals(want)) return true;
            System.out.println("seed " + seed + ", call " + call + ": " + what + " answered " + got + ", due is " + want);
            return false;
        }

        // Mostly a number that can be, now and then one just outside, seldom one far off.
        int draw(int least, int greatest) {
            int kind = random.nextInt(60);
            if (kind == 0) return least - 1;
            if (kind == 1) return greatest + 1;
            if (kind == 2) return random.nextInt();
            return least + random.nextInt(Math.max(1, greatest - least + 1));
        }

        int drawTask() {
            int came = m.all.size();
            return random.nextBoolean() ? draw(0, came - 1) : draw(Math.max(0, came - 8), came - 1);
        }

        int drawToken() {
            return random.nextInt(4) == 0 ? draw(0, m.tokens - 1) : draw(Math.max(0, m.tokens - 12), m.tokens - 1);
        }

        int drawValue(int what) {
            int[] small = {6, 4, 4, 20, 4, 12, 3};
            int[] greatest = {200, 20, 100, 1000, 100, 1000, 8};
            int known = what < 0 || what > 6 ? 0 : what;
            return random.nextInt(4) == 0 ? draw(0, greatest[known]) : draw(0, small[known]);
        }

        boolean step() {
            call++;
            int kind = random.nextInt(crowded ? 20 : 26);
            if (kind < 8) return add();
            if (kind < 13) return lend();
            if (kind == 13) return cancelOrRevive();
            if (kind == 14) return set();
            if (kind == 15) return beat();
            if (kind < 20) return crowded && random.nextInt(3) != 0 ? add() : end();
            if (kind == 25) return cancelOrRevive();
            return tick();
        }

        boolean add() {
            int q = draw(0, 3), r = draw(0, 3), g = draw(-1, 7), d = random.nextInt(8) == 0 ? draw(0, 1000) : draw(0, 4);
            long key = random.nextInt(3) == 0 ? 1 + random.nextInt(keys) : 0;
            return same("add(" + q + ", " + r + ", " + g + ", " + key + ", " + d + ")",
                told(() -> x.add(q, r, g, key, d)), m.add(q, r, g, key, d));
        }

        boolean lend() {
            int w = draw(0, 7), q = draw(0, 3);
            return same("lend(" + w + ", " + q + ")", told(() -> x.lend(w, q)), m.lend(w, q));
        }

        boolean beat() {
            int t = drawToken();
            return same("beat(" + t + ")", told(() -> x.beat(t)), m.beat(t));
        }

        boolean end() {
            int t = drawToken(), how = draw(0, 2);
            return same("end(" + t + ", " + how + ")", told(() -> x.end(t, how)), m.end(t, how));
        }

        boolean tick() {
            int n = random.nextInt(20) == 0 ? draw(1, 1000) : draw(1, 5);
            return same("tick(" + n + ")", told(() -> x.tick(n)), m.tick(n));
        }

        boolean cancelOrRevive() {
            int t = drawTask();
            if (random.nextBoolean()) return same("cancel(" + t + ")", told(() -> x.cancel(t)), m.cancel(t));
            return same("revive(" + t + ")", told(() -> x.revive(t)), m.revive(t));
        }

        boolean set() {
            int what = draw(0, 6), which = draw(0, what == 6 ? 7 : 3), v = drawValue(what);
            return same("set(" + what + ", " + which + ", " + v + ")", told(() -> x.set(what, which, v)), m.set(what, which, v));
        }

        boolean sameState() {
            boolean same = same("next()", told(x::next), m.next());
            for (int q = -1; q <= 4; q++) {
                int at = q;
                same &= same("first(" + q + ")", told(() -> x.first(at)), "" + m.first(q));
            }
            for (int what = -1; what <= 25; what++) {
                int at = what;
                same &= same("count(" + what + ")", told(() -> x.count(at)), m.count(what));
            }
            for (int t = -1; t <= m.all.size(); t++) {
                for (int what = -1; what <= 7; what++) {
                    int task = t, at = what;
                    same &= same("task(" + t + ", " + what + ")", told(() -> x.task(task, at)), m.task(t, what));
                }
            }
            return same;
        }

        boolean holds() {
            for (int i = 0; i < CALLS; i++) {
                if (!step()) return false;
                if (i % 8 == 7 && !sameState()) return false;
            }
            return true;
        }
    }

    public static void main(String[] args) {
        Checks checks = new Checks("ModelTest");
        for (int seed = 1; seed <= RUNS; seed++) checks.due("run " + seed, new Run(seed).holds(), true);
        checks.close();
    }
}
