/** Promises 28 to 31: acts, THE TRACE, one taken for a KIND, counts. */
public final class ActsTest {
    private static final Due DUE = new Due("ActsTest");

    public static void main(String[] args) {
        BellsBelow x = new BellsBelow();
        int[] vs = {6, 5, 3, 7, 8, 4};
        for (int kind = 0; kind < 6; kind++) {
            x.master(kind, vs[kind], 0);
        }
        masterAndDuke(x);
        ladyAndPeer(x);
        earlAndRose(x);
        toldOne();
        wraps(x);
        refused(x);
        taken(x);
        counts(x);
        DUE.ends();
    }

    private static void act(BellsBelow x, int p, int act, int by, int want, int... bodies) {
        String call = "act " + act + " of " + p + " by " + by;
        DUE.is(call, x.act(p, act, by), want);
        DUE.is("bodies of " + call, x.count(6), bodies.length);
        for (int i = 0; i < bodies.length; i++) {
            DUE.is("body " + i + " of " + call, x.trace(i), bodies[i]);
        }
        DUE.is("behind the trace of " + call, x.trace(bodies.length), -1);
        DUE.is("ahead of the trace of " + call, x.trace(-1), -1);
    }

    private static void masterAndDuke(BellsBelow x) {
        act(x, 0, 0, 9, 9, 10);
        act(x, 0, 1, 9, 3, 11, 10);
        act(x, 0, 2, 9, 6, 12, 11, 10);
        act(x, 1, 0, 9, 10, 10);
        // 9 + 1 - 5 is 5; 5 ^ 6 is 3.
        act(x, 1, 1, 9, 3, 20, 11, 10);
        act(x, 1, 2, 9, 6, 12, 20, 11, 10);
    }

    private static void ladyAndPeer(BellsBelow x) {
        act(x, 2, 0, 9, 29, 30, 10);
        act(x, 2, 1, 9, 26, 11, 30, 10);
        act(x, 2, 2, 9, 52, 12, 11, 30, 10);
        act(x, 3, 0, 9, 12, 10);
        act(x, 3, 1, 9, 5, 11, 10);
        // (9 + 3 - 7) * 2 and 1 + 3 - 7.
        act(x, 3, 2, 9, 7, 40, 12, 11, 10, 11, 10);
    }

    private static void earlAndRose(BellsBelow x) {
        act(x, 4, 0, 9, -13, 50, 10);
        // -(10 + 4) - 8 is -22; -22 ^ 6 is -20.
        act(x, 4, 1, 9, -20, 51, 20, 11, 50, 10);
        act(x, 4, 2, 9, -40, 12, 51, 20, 11, 50, 10);
        act(x, 5, 0, 9, 32, 30, 10);
        act(x, 5, 1, 9, 28, 11, 30, 10);
        // 9 - 5 is 4; 12 + 5 - 4 is 13, twice.
        act(x, 5, 2, 9, 26, 60, 12, 11, 30, 10);
    }

    private static void toldOne() {
        BellsBelow x = new BellsBelow();
        x.master(0, 0, 0);
        x.master(6, 4, 0);
        // 9 + 1 is 10; 10 ^ 4 is 14.
        act(x, 1, 0, 9, 14, 71, 10);
        // 6 ^ 4 is 2.
        act(x, 1, 0, 5, 2, 71, 10);
        // 14 - 4, and 2 + 1.
        act(x, 1, 1, 9, 13, 70, 11, 71, 10, 10);
        // 26; yawns(1): (2 ^ 4) - 4 + 3 is 5.
        act(x, 1, 2, 9, 31, 40, 12, 70, 11, 71, 10, 10, 70, 11, 71, 10, 10);
    }

    private static void wraps(BellsBelow x) {
        act(x, 1, 0, Integer.MAX_VALUE, Integer.MIN_VALUE, 10);
        act(x, 0, 1, Integer.MIN_VALUE, Integer.MAX_VALUE - 5, 11, 10);
        act(x, 0, 2, Integer.MIN_VALUE, -12, 12, 11, 10);
        act(x, 2, 0, 1431655766, 4, 30, 10);
        act(x, 4, 0, Integer.MIN_VALUE - 4, Integer.MIN_VALUE, 50, 10);
    }

    private static void refused(BellsBelow x) {
        x.act(0, 2, 1);
        DUE.is("bodies", x.count(6), 3);
        act(x, 6, 0, 5, 0);
        x.act(0, 2, 1);
        act(x, -1, 0, 5, 0);
        x.act(0, 2, 1);
        act(x, 0, 3, 5, 0);
        x.act(0, 2, 1);
        act(x, 0, -1, 5, 0);
        DUE.is("trace 20", x.trace(20), -1);
        DUE.is("trace most", x.trace(Integer.MAX_VALUE), -1);
        DUE.is("trace least", x.trace(Integer.MIN_VALUE), -1);
    }

    private static void taken(BellsBelow x) {
        String[] under = {"0", "01", "02", "03", "014", "025"};
        for (int p = 0; p < 6; p++) {
            for (int k = 0; k < 7; k++) {
                boolean is = under[p].indexOf('0' + k) >= 0;
                DUE.is(p + " taken for " + k, x.taken(p, k), is ? p : -12);
            }
        }
        BellsBelow y = new BellsBelow();
        y.master(6, 0, 0);
        for (int k = 0; k < 7; k++) {
            DUE.is("told taken for " + k, y.taken(0, k), k == 0 || k == 3 || k == 6 ? 6 : -12);
        }
        DUE.is("k 7", x.taken(0, 7), -2);
        DUE.is("k -1, nobody", x.taken(9, -1), -2);
        DUE.is("nobody", x.taken(6, 0), -11);
        DUE.is("nobody below", x.taken(-1, 0), -11);
    }

    private static void counts(BellsBelow x) {
        DUE.is("masters", x.count(0), 6);
        DUE.is("houses", x.count(1), 0);
        DUE.is("count 7", x.count(7), -2);
        DUE.is("count -1", x.count(-1), -2);
        x.see(0, 0, 0);
        x.plan(0, 0);
        x.plan(0, 0);
        x.book(0, 0);
        x.book(0, 0);
        x.book(0, 0);
        Due.house(x, "rest 1");
        Due.feed(x, "rest");
        x.act(0, 1, 0);
        int[] want = {6, 1, 1, 2, 3, 4, 2};
        for (int what = 0; what < 7; what++) {
            DUE.is("count " + what, x.count(what), want[what]);
        }
    }
}
