/** What is refused by any two numbers at once changes nothing. */
public final class NothingChangesTest {
    private static final Due DUE = new Due("NothingChangesTest");
    private static final int[] EDGES = {
        Integer.MIN_VALUE, -3, -2, -1, 0, 1, 2, 3, 5, 6, 7, 9, 10, 11, 19, 20, 29, 30, 60, 61, 100,
        127, 128, Integer.MAX_VALUE
    };

    public static void main(String[] args) {
        String due = State.of(Stage.some());
        int refusals = 0;
        for (int a : EDGES) {
            for (int b : EDGES) {
                BellsBelow x = Stage.some();
                refusals += refusedBy(x, a, b);
                DUE.isSo("refused by " + a + " " + b, State.of(x).equals(due));
            }
        }
        DUE.isSo("many were refused: " + refusals, refusals > 10000);
        DUE.ends();
    }

    private static int refuses(String call, long answer) {
        DUE.isSo(call + " is refused, with " + answer,
            answer == -1 || answer == -2 || answer == -3 || answer <= -11 && answer >= -14);
        return 1;
    }

    private static boolean in(int n, int high) {
        return n >= 0 && n <= high;
    }

    /** Every change that a or b makes one to be refused, and no other. */
    private static int refusedBy(BellsBelow x, int a, int b) {
        int n = 0;
        String by = " by " + a + " " + b;
        if (!in(a, 6) || !in(b, 9)) {
            n += refuses("master" + by, x.master(a, b, 3)) + refuses("master" + by, x.master(a, 3, b));
        }
        if (!in(a, 3) || !in(b, 9)) {
            n += refuses("set" + by, x.set(a, 0, b)) + refuses("row" + by, x.row(a, 1, b));
        }
        if (!in(a, 3) || !in(b, 99)) {
            n += refuses("set rests" + by, x.set(a, 1, b));
        }
        if (!in(a, 1)) {
            n += refuses("set what" + by, x.set(0, a, 0));
        }
        if (a != 3 || !in(b, 3)) {
            n += refuses("row of" + by, x.row(a, b, 1));
        }
        if (!in(a, 3)) {
            n += refuses("away" + by, x.away(a, true));
        }
        if (!in(a, 9)) {
            n += refuses("ring" + by, x.ring(a));
        }
        if (!in(a, 9) || !in(b, 9) || a == b) {
            n += refuses("cross" + by, x.cross(a, b));
        }
        if (!in(a, 127)) {
            n += refuses("feed" + by, x.feed(a));
        }
        if (!in(a, 60)) {
            n += refuses("pass" + by, x.pass(a));
        }
        return n + notedBy(x, a, b) + tapedBy(x, a, b);
    }

    private static int notedBy(BellsBelow x, int a, int b) {
        int n = 0;
        String by = " by " + a + " " + b;
        if (a != -1 && (!in(a, 3) || !in(b, 9))) {
            n += refuses("see" + by, x.see(a, 3, b)) + refuses("book" + by, x.book(a, b));
        }
        if (a != -1 && (!in(a, 3) || !in(b, 20))) {
            n += refuses("see n" + by, x.see(a, b, 3));
        }
        if (a != -1 && (!in(a, 3) || a == 1 && !in(b, 9) || a > 1 && !in(b, 3))) {
            n += refuses("plan" + by, x.plan(a, b));
        }
        return n;
    }

    private static int tapedBy(BellsBelow x, int a, int b) {
        int n = 0;
        String by = " by " + a + " " + b;
        if (!in(a, 5)) {
            n += refuses("tape" + by, x.tape(a, 0, 3));
        }
        if (a != -1 && (!in(a, 4) || !in(b, 60))) {
            n += refuses("tape sort" + by, x.tape(0, a, b));
        }
        if (!in(a, 2) || !in(b, a == 0 ? 11 : a == 1 ? 4 : 2)) {
            n += refuses("item" + by, x.item(a, b, 77));
        }
        if (a != 0 && a != 2) {
            n += refuses("shift" + by, x.shift(a, 0, 0, 1, 2));
            n += refuses("shift" + by, x.shift(0, 3, a, 0, 1));
        }
        if (!in(a, 10) || !in(b, 1)) {
            n += refuses("shift places" + by, x.shift(0, a, 2, b, 2));
        }
        if (!in(a, 3)) {
            n += refuses("shift n" + by, x.shift(0, 3, 2, 0, a));
        }
        return n;
    }
}
