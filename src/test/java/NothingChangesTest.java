/** What is refused changes nothing, and what is asked changes nothing. */
public final class NothingChangesTest {
    private static final Due DUE = new Due("NothingChangesTest");
    private static final int[] EDGES = {
        Integer.MIN_VALUE, -3, -2, -1, 0, 1, 2, 3, 5, 6, 7, 9, 10, 11, 19, 20, 29, 30, 60, 61, 100,
        127, 128, Integer.MAX_VALUE
    };

    public static void main(String[] args) {
        asked();
        refused();
        refusedWhenFull();
        DUE.ends();
    }

    /** Some of all there is: one who goes, one who rests, one away, one free, a told one. */
    private static BellsBelow stage() {
        BellsBelow x = new BellsBelow();
        x.master(0, 1, 2);
        x.master(1, 2, 9);
        x.master(5, 3, 4);
        x.master(6, 4, 0);
        x.row(3, 1, 5);
        Due.house(x, "slow 3 a>4|m=2;keen 2 k=5&!f<3;rest 4");
        x.cross(1, 6);
        x.cross(6, 8);
        x.ring(0);
        x.ring(8);
        x.pass(1);
        x.ring(5);
        x.ring(9);
        x.pass(1);
        x.away(1, true);
        x.see(0, 0, 2);
        x.plan(1, 3);
        x.plan(2, 0);
        x.plan(0, 0);
        x.book(2, 4);
        x.book(0, 7);
        x.image();
        x.set(2, 1, 7);
        x.ring(2);
        Due.feed(x, "slow");
        x.tape(0, 0, 12);
        x.item(0, 3, 4);
        x.tape(1, 3, 5);
        x.item(1, 2, -9);
        x.tape(2, 0, 3);
        x.act(3, 2, 5);
        return x;
    }

    /** All that can be asked. */
    private static String told(BellsBelow x) {
        StringBuilder all = new StringBuilder();
        for (int p = 0; p < 6; p++) {
            for (int what = 0; what < 20; what++) {
                all.append(x.of(p, what)).append(' ');
            }
            all.append(x.from(p)).append(' ').append(x.can(p, 0)).append(' ').append(x.can(p, 1))
                .append(' ').append(x.odds(p, 0)).append('/').append(x.odds(p, 1)).append(' ')
                .append(x.taken(p, 3)).append(' ');
        }
        for (int what = 0; what < 30; what++) {
            all.append(x.told(what)).append(' ').append(x.on(what, what % 26)).append(' ')
                .append(x.shared(what)).append(' ').append(x.bell(what % 10, what % 2)).append(' ')
                .append(x.count(what)).append(' ').append(x.trace(what)).append(' ');
        }
        all.append(x.mean(20, 0)).append('/').append(x.mean(20, 1)).append(' ');
        all.append(x.ends(0)).append(' ').append(x.ends(1)).append(' ').append(x.looked());
        for (int tape = 0; tape < 6; tape++) {
            all.append(' ').append(x.judge(tape, 0));
            for (int i = 0; i < 13; i++) {
                all.append(' ').append(x.read(tape, i));
            }
        }
        return all.toString();
    }

    /** What cannot be asked alone: what all is once it goes on, and behind undo(). */
    private static String toldThen(BellsBelow x) {
        String all = told(x);
        all += x.row(3, 1, 5) + " " + x.feed('x') + " " + x.house() + " " + x.pass(7) + told(x);
        return all + x.undo() + told(x) + x.row(3, 1, 1);
    }

    private static void asked() {
        BellsBelow x = stage();
        String first = told(x);
        DUE.isSo("asked twice", told(x).equals(first));
        DUE.isSo("asked twice, then", toldThen(x).equals(toldThen(stage())));
    }

    private static void refused() {
        BellsBelow x = stage();
        String was = told(x);
        int refusals = 0;
        for (int a : EDGES) {
            for (int b : EDGES) {
                refusals += refusedBy(x, a, b);
                DUE.isSo("refused by " + a + " " + b, told(x).equals(was));
            }
        }
        DUE.isSo("many were refused: " + refusals, refusals > 10000);
        DUE.isSo("refused, then", toldThen(x).equals(toldThen(stage())));
    }

    private static int refuses(String call, long answer) {
        DUE.isSo(call + " is refused, with " + answer,
            answer == -1 || answer == -2 || answer == -3 || answer <= -11 && answer >= -14);
        return 1;
    }

    private static boolean in(int n, int high) {
        return n >= 0 && n <= high;
    }

    /** Every change that a or b makes one to be refused, and no other. */
    private static int refusedBy(BellsBelow x, int a, int b) {
        int n = 0;
        String by = " by " + a + " " + b;
        if (!in(a, 6) || !in(b, 9)) {
            n += refuses("master" + by, x.master(a, b, 3)) + refuses("master" + by, x.master(a, 3, b));
        }
        if (!in(a, 3) || !in(b, 9)) {
            n += refuses("set" + by, x.set(a, 0, b)) + refuses("row" + by, x.row(a, 1, b));
        }
        if (!in(a, 3) || !in(b, 99)) {
            n += refuses("set rests" + by, x.set(a, 1, b));
        }
        if (!in(a, 1)) {
            n += refuses("set what" + by, x.set(0, a, 0));
        }
        if (a != 3 || !in(b, 3)) {
            n += refuses("row of" + by, x.row(a, b, 1));
        }
        if (!in(a, 3)) {
            n += refuses("away" + by, x.away(a, true));
        }
        if (!in(a, 9)) {
            n += refuses("ring" + by, x.ring(a));
        }
        if (!in(a, 9) || !in(b, 9) || a == b) {
            n += refuses("cross" + by, x.cross(a, b));
        }
        if (!in(a, 127)) {
            n += refuses("feed" + by, x.feed(a));
        }
        if (!in(a, 60)) {
            n += refuses("pass" + by, x.pass(a));
        }
        return n + notedBy(x, a, b) + tapedBy(x, a, b);
    }

    private static int notedBy(BellsBelow x, int a, int b) {
        int n = 0;
        String by = " by " + a + " " + b;
        if (a != -1 && (!in(a, 3) || !in(b, 9))) {
            n += refuses("see" + by, x.see(a, 3, b)) + refuses("book" + by, x.book(a, b));
        }
        if (a != -1 && (!in(a, 3) || !in(b, 20))) {
            n += refuses("see n" + by, x.see(a, b, 3));
        }
        if (a != -1 && (!in(a, 3) || a == 1 && !in(b, 9) || a > 1 && !in(b, 3))) {
            n += refuses("plan" + by, x.plan(a, b));
        }
        return n;
    }

    private static int tapedBy(BellsBelow x, int a, int b) {
        int n = 0;
        String by = " by " + a + " " + b;
        if (!in(a, 5)) {
            n += refuses("tape" + by, x.tape(a, 0, 3));
        }
        if (a != -1 && (!in(a, 4) || !in(b, 60))) {
            n += refuses("tape sort" + by, x.tape(0, a, b));
        }
        if (!in(a, 2) || !in(b, a == 0 ? 11 : a == 1 ? 4 : 2)) {
            n += refuses("item" + by, x.item(a, b, 77));
        }
        if (a != 0 && a != 2) {
            n += refuses("shift" + by, x.shift(a, 0, 0, 1, 2));
            n += refuses("shift" + by, x.shift(0, 3, a, 0, 1));
        }
        if (!in(a, 10) || !in(b, 1)) {
            n += refuses("shift places" + by, x.shift(0, a, 2, b, 2));
        }
        if (!in(a, 3)) {
            n += refuses("shift n" + by, x.shift(0, 3, 2, 0, a));
        }
        return n;
    }

    private static void refusedWhenFull() {
        BellsBelow x = stage();
        x.master(2, 2, 2);
        x.master(3, 3, 3);
        fill(x);
        String was = told(x);
        DUE.is("master", x.master(0, 0, 0), -4);
        DUE.is("house", x.house(), -4);
        DUE.is("feed", x.feed('x'), -4);
        DUE.is("see", x.see(0, 0, 0), -4);
        DUE.is("plan", x.plan(0, 0), -4);
        DUE.is("book", x.book(0, 0), -4);
        DUE.isSo("full, and nothing changed", told(x).equals(was));
        DUE.is("pass to 9999", passed(x), 9999);
        String late = told(x);
        DUE.is("pass", x.pass(1), -3);
        DUE.isSo("late, and nothing changed", told(x).equals(late));
    }

    private static void fill(BellsBelow x) {
        x.house();
        for (int i = 0; i < 6; i++) {
            Due.house(x, "rest " + i);
        }
        x.house();
        while (x.count(5) < 100) {
            x.feed('r');
        }
        for (int i = 0; i < 10; i++) {
            x.see(1, i, i);
            x.plan(0, 0);
            x.book(1, i);
        }
    }

    private static int passed(BellsBelow x) {
        while (x.told(0) <= 9939) {
            x.pass(60);
        }
        return x.pass(9999 - x.told(0));
    }
}
