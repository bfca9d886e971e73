import java.util.Random;

/** Long runs of calls by chance (the same each time), each answer held against Plain's. */
public final class AgainstPlainTest {
    private static final int RUNS = 500, CALLS = 512;
    private static final int[] EDGES = {
        Integer.MIN_VALUE, Integer.MIN_VALUE + 1, -1000000, -2, -1, 0, 1, 60, 61, 100,
        1000000, Integer.MAX_VALUE - 1, Integer.MAX_VALUE
    };
    private final Due due;
    private final Random chance;
    private final int run;
    private final BellsBelow x = new BellsBelow();
    private final Plain y = new Plain();
    private int calls;

    private AgainstPlainTest(Due due, int run) {
        this.due = due;
        this.run = run;
        chance = new Random(run);
    }

    public static void main(String[] args) {
        Due due = new Due("AgainstPlainTest");
        for (int run = 0; run < RUNS && due.wrong() == 0; run++) {
            new AgainstPlainTest(due, run).goes();
        }
        due.ends();
    }

    private void same(String call, long got, long want) {
        calls++;
        // What later calls answer is free.
        if (calls > CALLS) {
            return;
        }
        due.is("run " + run + " call " + calls + ": " + call, got, want);
    }

    private int below(int n) {
        return chance.nextInt(n);
    }

    /** Mostly a number that is one of these, now and then one just beside or far off. */
    private int one(int low, int high) {
        int die = below(40);
        if (die == 0) {
            return low - 1;
        }
        if (die == 1) {
            return high + 1;
        }
        if (die == 2) {
            return EDGES[below(EDGES.length)];
        }
        return low + below(high - low + 1);
    }

    private void goes() {
        begins();
        int before = calls;
        while (calls < CALLS && due.wrong() == 0) {
            if (calls - before > 60 && below(60) == 0) {
                before = calls;
                passes();
            } else {
                call();
            }
        }
    }

    /** Half of all runs begin with a full house, the others as chance has it. */
    private void begins() {
        int masters = run % 2 == 0 ? 6 : below(5);
        for (int i = 0; i < masters; i++) {
            int kind = below(7);
            int v = below(10);
            int floor = below(10);
            same("master", x.master(kind, v, floor), y.master(kind, v, floor));
        }
        if (run % 3 == 0) {
            feeds(new Texts(chance).house());
            same("house", x.house(), y.house());
        }
        for (int i = below(8); i > 0; i--) {
            int floor = below(10);
            same("ring", x.ring(floor), y.ring(floor));
        }
        // Late minutes are reached by some runs alone: what goes on beyond 9999 counts, too.
        for (int i = 0; run % 20 == 19 && i < 166; i++) {
            same("pass", x.pass(60), y.pass(60));
        }
    }

    private void passes() {
        int n = one(0, 12);
        same("pass " + n, x.pass(n), y.pass(n));
    }

    private void feeds(String text) {
        for (int i = 0; i < text.length() && calls < CALLS - 1; i++) {
            int sign = text.charAt(i);
            same("feed " + sign, x.feed(sign), y.feed(sign));
        }
    }

    private void call() {
        int which = below(120);
        if (which < 2) {
            feeds(chance.nextInt(4) == 0 ? new Texts(chance).spoilt() : new Texts(chance).house());
            same("house", x.house(), y.house());
        } else if (which < 30) {
            changes();
        } else if (which < 90) {
            asks();
        } else if (which < 105) {
            notes();
        } else {
            others();
        }
    }

    private void changes() {
        int a = one(0, 5);
        int f = one(0, 9);
        int g = one(0, 9);
        switch (below(9)) {
            case 0:
                int kind = one(0, 6);
                same("master " + kind + " " + f + " " + g, x.master(kind, f, g), y.master(kind, f, g));
                break;
            case 1:
                int what = one(0, 1);
                int n = below(2) == 0 ? one(0, 9) : one(0, 99);
                same("set " + a + " " + what + " " + n, x.set(a, what, n), y.set(a, what, n));
                break;
            case 2:
                boolean is = below(3) == 0;
                same("away " + a + " " + is, x.away(a, is), y.away(a, is));
                break;
            case 3:
            case 4:
                same("ring " + f, x.ring(f), y.ring(f));
                break;
            case 5:
                same("cross " + f + " " + g, x.cross(f, g), y.cross(f, g));
                break;
            case 6:
                int part = one(0, 3);
                same("row " + a + " " + part + " " + f, x.row(a, part, f), y.row(a, part, f));
                break;
            case 7:
                passesFew();
                break;
            default:
                imageOrUndo();
                break;
        }
    }

    private void passesFew() {
        int n = below(4);
        same("pass " + n, x.pass(n), y.pass(n));
    }

    private void imageOrUndo() {
        if (below(3) == 0) {
            same("image", x.image(), y.image());
        } else {
            same("undo", x.undo(), y.undo());
        }
    }

    private void asks() {
        int a = one(0, 5);
        int n = one(0, 60);
        int part = one(0, 1);
        int what = one(0, 29);
        switch (below(12)) {
            case 0:
            case 1:
                int of = one(0, 19);
                same("of " + a + " " + of, x.of(a, of), y.of(a, of));
                break;
            case 2:
                same("told " + what, x.told(what), y.told(what));
                break;
            case 3:
                same("on " + n + " " + what, x.on(n, what), y.on(n, what));
                break;
            case 4:
                int f = one(0, 9);
                same("bell " + f + " " + part, x.bell(f, part), y.bell(f, part));
                break;
            case 5:
            case 6:
                int who = below(3) == 0 ? one(0, 1) : one(10, 19);
                same("shared " + who, x.shared(who), y.shared(who));
                break;
            case 7:
                same("from " + a, x.from(a), y.from(a));
                break;
            case 8:
                same("can " + a + " " + part, x.can(a, part), y.can(a, part));
                break;
            case 9:
                same("odds " + a + " " + part, x.odds(a, part), y.odds(a, part));
                break;
            case 10:
                same("mean " + n + " " + part, x.mean(n, part), y.mean(n, part));
                break;
            default:
                same("ends " + part, x.ends(part), y.ends(part));
                break;
        }
    }

    private void notes() {
        int a = below(12) == 0 ? -1 : one(0, 5);
        int f = one(0, 9);
        int n = one(0, 20);
        switch (below(4)) {
            case 0:
                // What will be so is seen as often as what will not.
                int so = below(2) == 0 ? y.on(n, 10 + a) : f;
                same("see " + a + " " + n + " " + so, x.see(a, n, so), y.see(a, n, so));
                break;
            case 1:
                int what = below(12) == 0 ? -1 : one(0, 3);
                same("plan " + what + " " + f, x.plan(what, f), y.plan(what, f));
                break;
            case 2:
                int is = below(2) == 0 ? y.of(a, 2) : f;
                same("book " + a + " " + is, x.book(a, is), y.book(a, is));
                break;
            default:
                same("looked", x.looked(), y.looked());
                break;
        }
    }

    private void others() {
        int a = one(0, 5);
        int k = one(0, 6);
        switch (below(5)) {
            case 0:
                int act = one(0, 2);
                int by = below(5) == 0 ? chance.nextInt() : one(-10, 10);
                same("act " + a + " " + act + " " + by, x.act(a, act, by), y.act(a, act, by));
                for (int i = -1; i < 13; i++) {
                    same("trace " + i, x.trace(i), y.trace(i));
                }
                break;
            case 1:
                same("taken " + a + " " + k, x.taken(a, k), y.taken(a, k));
                break;
            case 2:
                same("count " + k, x.count(k), y.count(k));
                break;
            default:
                tapes();
                break;
        }
    }

    private void tapes() {
        int t = one(0, 5);
        int u = one(0, 5);
        int i = below(3) == 0 ? one(0, 60) : one(0, 12);
        int j = one(0, 12);
        int n = below(3) == 0 ? one(0, 60) : one(0, 12);
        switch (below(6)) {
            case 0:
                int sort = below(2) == 0 ? 0 : one(-1, 4);
                same("tape " + t + " " + sort + " " + n, x.tape(t, sort, n), y.tape(t, sort, n));
                break;
            case 1:
                long v = below(2) == 0 ? chance.nextLong() : one(-200, 200);
                same("item " + t + " " + i + " " + v, x.item(t, i, v), y.item(t, i, v));
                break;
            case 2:
                same("read " + t + " " + i, x.read(t, i), y.read(t, i));
                break;
            case 3:
                same("shift " + t + " " + i + " " + u + " " + j + " " + n,
                    x.shift(t, i, u, j, n), y.shift(t, i, u, j, n));
                break;
            case 4:
                tellsWires(t);
                break;
            default:
                same("judge " + t + " " + i, x.judge(t, i), y.judge(t, i));
                break;
        }
    }

    /** WIRES told nearly right: all of them, fewer, or one wrong. */
    private void tellsWires(int t) {
        int from = below(4);
        int many = below(2) == 0 ? 10 : below(11);
        same("tape", x.tape(t, 0, from + many), y.tape(t, 0, from + many));
        for (int f = 0; f < many; f++) {
            int to = below(30) == 0 ? below(10) : y.told(10 + f);
            same("item", x.item(t, from + f, to), y.item(t, from + f, to));
        }
        same("judge " + t + " " + from, x.judge(t, from), y.judge(t, from));
    }
}
