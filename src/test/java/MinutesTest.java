/** Promises 12 to 15: minutes that go, what will be, bells, how it is shared best. */
public final class MinutesTest {
    private static final Due DUE = new Due("MinutesTest");

    public static void main(String[] args) {
        passing();
        oneGoes();
        restsThen();
        whoGoes();
        awayOnes();
        restsWithGoal();
        on();
        beyond();
        bells();
        bellOfAway();
        shared();
        sharedTies();
        sharedRefused();
        DUE.ends();
    }

    private static void passing() {
        BellsBelow x = new BellsBelow();
        DUE.is("pass 0", x.pass(0), 0);
        DUE.is("pass 60", x.pass(60), 60);
        DUE.is("pass 61", x.pass(61), -2);
        DUE.is("pass -1", x.pass(-1), -2);
        for (int i = 2; i <= 166; i++) {
            x.pass(60);
        }
        DUE.is("minute", x.told(0), 9960);
        DUE.is("pass to 10000", x.pass(40), -3);
        DUE.is("a bad n there", x.pass(61), -2);
        DUE.is("pass to 9999", x.pass(39), 9999);
        DUE.is("pass 0 there", x.pass(0), 9999);
        DUE.is("pass 1 there", x.pass(1), -3);
        DUE.is("minute then", x.told(0), 9999);
    }

    private static void is(BellsBelow x, String all) {
        StringBuilder got = new StringBuilder();
        for (int p = 0; p < x.count(0); p++) {
            got.append(x.of(p, 2)).append(' ').append(x.of(p, 3)).append(' ')
                .append(x.of(p, 4)).append(' ').append(x.of(p, 6)).append(", ");
        }
        got.append(x.told(2)).append(' ').append(x.told(3));
        DUE.isSo("in minute " + x.told(0) + " is " + got + ", due " + all,
            got.toString().equals(all));
    }

    /** FLOOR, GOAL, RESTS, CAME of each; RUNG, WAITED. */
    private static void oneGoes() {
        BellsBelow x = new BellsBelow();
        x.master(0, 0, 2);
        x.ring(5);
        is(x, "2 -5 0 0, 32 0");
        x.pass(1);
        is(x, "3 5 0 0, 32 1");
        x.pass(1);
        is(x, "4 5 0 0, 32 2");
        x.pass(1);
        is(x, "5 -5 2 1, 0 2");
        x.ring(4);
        x.pass(1);
        is(x, "5 -5 1 1, 16 3");
        x.pass(1);
        is(x, "5 -5 0 1, 16 4");
        x.pass(1);
        is(x, "4 -5 2 2, 0 4");
        x.pass(60);
        is(x, "4 -5 0 2, 0 4");
    }

    private static void restsThen() {
        BellsBelow x = new BellsBelow();
        x.master(0, 0, 9);
        x.ring(9);
        x.ring(0);
        x.ring(4);
        x.pass(1);
        // FLOOR by FLOOR: 0 is given first, though 9 would be nearer.
        is(x, "8 0 0 0, 529 3");
        x.pass(8);
        is(x, "0 -5 2 1, 528 26");
        x.pass(2);
        is(x, "0 -5 0 1, 528 30");
        x.pass(4);
        is(x, "4 -5 2 2, 512 37");
    }

    private static void whoGoes() {
        BellsBelow x = new BellsBelow();
        x.master(0, 0, 0);
        x.master(0, 0, 4);
        x.master(0, 0, 4);
        x.ring(3);
        x.ring(2);
        x.pass(1);
        // 2 is as near to 0 and 4: the first; 3 then is nearest to the second, of two alike.
        is(x, "1 2 0 0, 3 -5 2 1, 4 -5 0 0, 4 1");
        x.ring(2);
        x.pass(1);
        is(x, "2 -5 2 1, 3 -5 1 1, 4 -5 0 0, 0 1");
        BellsBelow y = new BellsBelow();
        y.master(0, 0, 0);
        y.master(5, 9, 9);
        y.ring(0);
        y.pass(1);
        // A cost of 9 - 9 is no less than 0, that of 0 for FLOOR 0: the first goes.
        is(y, "0 -5 2 1, 9 -5 0 0, 0 0");
        y.ring(1);
        y.pass(1);
        is(y, "0 -5 1 1, 8 1 0 0, 2 1");
    }

    private static void awayOnes() {
        BellsBelow x = new BellsBelow();
        x.master(0, 0, 0);
        x.ring(3);
        x.pass(1);
        x.away(0, true);
        x.master(0, 0, 3);
        x.pass(2);
        // Its goal stays its own, so nobody else goes there.
        is(x, "1 3 0 0, 3 -5 0 0, 8 3");
        x.away(0, false);
        x.pass(2);
        is(x, "3 -5 2 1, 3 -5 0 0, 0 4");
        x.away(0, true);
        x.pass(1);
        is(x, "3 -5 2 1, 3 -5 0 0, 0 4");
        x.away(1, true);
        x.ring(3);
        x.pass(1);
        is(x, "3 -5 2 1, 3 -5 0 0, 8 5");
    }

    /** One who has a goal goes on; what it rests is less only without one. */
    private static void restsWithGoal() {
        BellsBelow x = new BellsBelow();
        x.master(0, 0, 0);
        x.ring(3);
        x.pass(1);
        x.set(0, 1, 9);
        x.pass(1);
        is(x, "2 3 9 0, 8 2");
        x.pass(1);
        is(x, "3 -5 2 1, 0 2");
        x.ring(8);
        x.set(0, 1, 0);
        x.pass(1);
        x.set(0, 0, 8);
        x.pass(1);
        // It was there already: it stays, and has come.
        is(x, "8 -5 2 2, 0 3");
    }

    private static void on() {
        BellsBelow x = new BellsBelow();
        x.master(0, 0, 2);
        x.master(0, 0, 9);
        x.ring(5);
        x.ring(6);
        DUE.is("rung on 0", x.on(0, 0), 96);
        DUE.is("waited on 0", x.on(0, 1), 0);
        DUE.is("goal on 0", x.on(0, 20), -5);
        DUE.is("rung on 3", x.on(3, 0), 0);
        DUE.is("waited on 3", x.on(3, 1), 4);
        DUE.is("floor on 2", x.on(2, 10), 4);
        DUE.is("goal on 2", x.on(2, 20), 5);
        DUE.is("floor of 1 on 2", x.on(2, 11), 7);
        DUE.is("goal of 1 on 2", x.on(2, 21), 6);
        DUE.is("goal of 1 on 3", x.on(3, 21), -5);
        DUE.is("floor on 60", x.on(60, 10), 5);
        DUE.is("waited on 60", x.on(60, 1), 4);
        DUE.is("n 61", x.on(61, 0), -2);
        DUE.is("n -1", x.on(-1, 0), -2);
        DUE.is("what 2, n 61", x.on(61, 2), -1);
        DUE.is("what -1", x.on(0, -1), -1);
        DUE.is("what 12", x.on(0, 12), -1);
        DUE.is("what 9", x.on(0, 9), -1);
        DUE.is("what 19", x.on(0, 19), -1);
        DUE.is("what 22, n 61", x.on(61, 22), -1);
        DUE.is("what least", x.on(0, Integer.MIN_VALUE), -1);
        DUE.is("nothing went", x.told(0), 0);
    }

    /** What is asked goes on beyond the last minute. */
    private static void beyond() {
        BellsBelow x = new BellsBelow();
        for (int i = 0; i < 166; i++) {
            x.pass(60);
        }
        x.pass(39);
        x.master(0, 0, 0);
        x.master(0, 0, 1);
        Due.house(x, "slow 50 m=0&p=0");
        x.ring(3);
        DUE.is("rung behind 60", x.on(60, 0), 0);
        DUE.is("quiet", x.told(4), 2);
        x.set(0, 1, 1);
        x.set(1, 1, 1);
        // In 9999 both rest; 10000 is a 0 modulo 10, so the second goes.
        DUE.is("who has come", x.on(20, 11), 3);
        DUE.is("who has not", x.on(20, 10), 0);
        x.set(0, 0, 3);
        DUE.is("even if the first is there", x.on(20, 11), 3);
        DUE.is("mean then", x.mean(60, 1), 2);
        DUE.is("still", x.told(0), 9999);
    }

    private static void bells() {
        BellsBelow x = new BellsBelow();
        DUE.is("nobody there", x.bell(0, 0), -5);
        DUE.is("nobody goes", x.bell(0, 1), -5);
        x.master(0, 0, 0);
        x.master(0, 0, 9);
        DUE.is("it is there", x.bell(0, 0), 1);
        DUE.is("it goes", x.bell(0, 1), 0);
        DUE.is("one floor", x.bell(1, 0), 1);
        DUE.is("two floors", x.bell(2, 0), 2);
        DUE.is("from above", x.bell(5, 0), 4);
        DUE.is("the other", x.bell(5, 1), 1);
        x.cross(5, 0);
        DUE.is("by its wire", x.bell(5, 0), 1);
        DUE.is("who, by its wire", x.bell(5, 1), 0);
        DUE.is("nothing is rung by that", x.told(2), 0);
        x.ring(0);
        x.pass(1);
        // The bell of 0 rings for 5 now, to which the one on 9 is nearer; one of 4 minutes is over.
        DUE.is("who, while it goes", x.bell(0, 1), 1);
        DUE.is("minutes, while it goes", x.bell(0, 0), 3);
        DUE.is("floor -1", x.bell(-1, 0), -1);
        DUE.is("floor 10", x.bell(10, 1), -1);
        DUE.is("what 2", x.bell(0, 2), -1);
        DUE.is("what -1", x.bell(0, -1), -1);
    }

    private static void bellOfAway() {
        BellsBelow x = new BellsBelow();
        x.master(0, 0, 0);
        x.ring(4);
        x.pass(1);
        x.away(0, true);
        x.master(0, 0, 4);
        DUE.is("an absent one has it", x.bell(4, 1), 0);
        DUE.is("never", x.bell(4, 0), -5);
        x.away(1, true);
        DUE.is("nobody", x.bell(5, 1), -5);
    }

    private static void shared() {
        BellsBelow x = new BellsBelow();
        DUE.is("none rung", x.shared(0), 0);
        DUE.is("none rung, cost", x.shared(1), 0);
        x.master(0, 0, 5);
        x.master(0, 0, 9);
        x.ring(6);
        x.ring(5);
        x.ring(1);
        // 5 to the first and 6 to the second cost 6; with 1 in it, it costs more.
        DUE.is("how many", x.shared(0), 2);
        DUE.is("cost", x.shared(1), 6);
        DUE.is("to 1", x.shared(11), -5);
        DUE.is("to 5", x.shared(15), 0);
        DUE.is("to 6", x.shared(16), 1);
        DUE.is("to 7", x.shared(17), -5);
        Due.house(x, "keen 90 f=1&p=1");
        DUE.is("below 0", x.shared(1), 16 - 90);
        DUE.is("to 1, keen", x.shared(11), 1);
        DUE.is("to 5, keen", x.shared(15), 0);
        Due.house(x, "slow 99 p=1");
        // More that are given come ahead of less cost.
        DUE.is("many, slow", x.shared(0), 2);
        DUE.is("cost, slow", x.shared(1), 105);
        x.away(1, true);
        DUE.is("only the free", x.shared(0), 1);
        DUE.is("only the free, cost", x.shared(1), 0);
        x.pass(1);
        // 1 was given first and is somebody's goal now; nobody is free.
        DUE.is("nobody free", x.shared(0), 0);
        x.away(1, false);
        DUE.is("a goal is not given", x.shared(11), -5);
        DUE.is("to the other", x.shared(16), 1);
    }

    private static void sharedTies() {
        BellsBelow x = new BellsBelow();
        x.master(0, 0, 0);
        x.master(0, 0, 1);
        x.ring(5);
        x.ring(6);
        DUE.is("alike: the first row, 5", x.shared(15), 0);
        DUE.is("alike: the first row, 6", x.shared(16), 1);
        BellsBelow y = new BellsBelow();
        y.master(0, 0, 5);
        y.ring(3);
        y.ring(7);
        DUE.is("one ahead of none", y.shared(13), 0);
        DUE.is("none then", y.shared(17), -5);
        y.ring(0);
        // 0 costs 10, 3 and 7 cost 4 each: 0 is for none.
        DUE.is("none to 0", y.shared(10), -5);
        y.set(0, 0, 1);
        DUE.is("one to 0", y.shared(10), 0);
        DUE.is("one to 0, cost", y.shared(1), 2);
        BellsBelow z = new BellsBelow();
        for (int p = 0; p < 6; p++) {
            z.master(0, 0, 9 - p);
        }
        for (int f = 0; f < 10; f++) {
            z.ring(f);
        }
        DUE.is("six of ten", z.shared(0), 6);
        DUE.is("each where it is", z.shared(1), 0);
        for (int f = 0; f < 10; f++) {
            DUE.is("six of ten to " + f, z.shared(10 + f), f < 4 ? -5 : 9 - f);
        }
    }

    private static void sharedRefused() {
        BellsBelow x = new BellsBelow();
        DUE.is("what -1", x.shared(-1), -10001);
        DUE.is("what 2", x.shared(2), -10001);
        DUE.is("what 9", x.shared(9), -10001);
        DUE.is("what 20", x.shared(20), -10001);
        DUE.is("what least", x.shared(Integer.MIN_VALUE), -10001);
    }
}
