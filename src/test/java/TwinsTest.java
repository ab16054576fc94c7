/** The other tests lean on Twins to say that a call changes nothing: so it must see each change that there can be. */
public final class TwinsTest extends Cases {
    private static final int LENT_TOKEN = 2;

    private TwinsTest() {
        super("TwinsTest");
    }

    private void seen(String what, Twins.Call call) {
        boolean same = Twins.difference(BUSY, call).equals(Twins.NO_DIFFERENCE);
        due(what + " seems to change nothing", same, false);
    }

    private void run() {
        for (int q = 0; q < 4; q++) {
            int at = q;
            for (int what = LOAN; what <= MEMORY; what++) {
                int setting = what;
                seen("set " + what + " of " + q, x -> x.set(setting, at, 10));
                seen("set " + what + " of " + q, x -> x.set(setting, at, 20));
            }
            seen("add to " + q, x -> x.add(at, 0, NONE, 0, 0));
            seen("lend of " + q, x -> x.lend(7, at));
            seen("a token more", x -> x.end(x.lend(7, at), BACK));
        }
        for (int g = 0; g < 8; g++) {
            int at = g;
            seen("limit of " + g, x -> x.set(LIMIT, at, 0));
            seen("limit of " + g, x -> x.set(LIMIT, at, 8));
        }
        for (int how = DONE_SO; how <= BACK; how++) {
            int so = how;
            seen("end " + how, x -> x.end(LENT_TOKEN, so));
        }
        seen("beat", x -> x.beat(LENT_TOKEN));
        seen("tick", x -> x.tick(1));
        seen("cancel", x -> x.cancel(LATER_ONE));
        seen("revive", x -> x.revive(DEAD_ONE));
        close();
    }

    public static void main(String[] args) {
        new TwinsTest().run();
    }
}
