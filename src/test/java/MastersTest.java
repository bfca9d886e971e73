/** Promises 1 to 8 and 11: a new object, masters, bells, wires, the row, what is told. */
public final class MastersTest {
    private static final Due DUE = new Due("MastersTest");

    public static void main(String[] args) {
        constants();
        newObject();
        masters();
        costs();
        costOfCame();
        free();
        standsBest();
        setting();
        away();
        ringing();
        crossing();
        rows();
        told();
        DUE.ends();
    }

    private static void constants() {
        DUE.is("NONE", BellsBelow.NONE, -1);
        DUE.is("BAD", BellsBelow.BAD, -2);
        DUE.is("STATE", BellsBelow.STATE, -3);
        DUE.is("FULL", BellsBelow.FULL, -4);
        DUE.is("NO", BellsBelow.NO, Long.MIN_VALUE);
    }

    private static void newObject() {
        BellsBelow x = new BellsBelow();
        for (int what = 0; what <= 6; what++) {
            DUE.is("new: count " + what, x.count(what), 0);
        }
        for (int what = 0; what <= 5; what++) {
            DUE.is("new: told " + what, x.told(what), what == 1 ? 2 : 0);
        }
        for (int f = 0; f < 10; f++) {
            DUE.is("new: wire of " + f, x.told(10 + f), f);
        }
        DUE.is("new: of", x.of(0, 0), -10001);
        DUE.is("new: undo", x.undo(), -3);
        DUE.is("new: trace", x.trace(0), -1);
        for (int tape = 0; tape < 6; tape++) {
            DUE.is("new: item of " + tape, x.item(tape, 0, 1), -11);
        }
    }

    private static void masters() {
        BellsBelow x = new BellsBelow();
        DUE.is("kind -1", x.master(-1, 0, 0), -1);
        DUE.is("kind 7", x.master(7, 0, 0), -1);
        DUE.is("floor -1", x.master(0, 0, -1), -1);
        DUE.is("floor 10", x.master(0, 0, 10), -1);
        DUE.is("floor ahead of v", x.master(0, 10, 10), -1);
        DUE.is("v -1", x.master(0, -1, 0), -2);
        DUE.is("v 10", x.master(0, 10, 0), -2);
        DUE.is("none yet", x.count(0), 0);
        for (int p = 0; p < 6; p++) {
            DUE.is("master " + p, x.master(p + 1, 9 - p, p + 4), p);
            DUE.is("kind of " + p, x.of(p, 0), p + 1);
            DUE.is("v of " + p, x.of(p, 1), 9 - p);
            DUE.is("floor of " + p, x.of(p, 2), p + 4);
            DUE.is("goal of " + p, x.of(p, 3), -5);
            DUE.is("rests of " + p, x.of(p, 4), 0);
            DUE.is("away of " + p, x.of(p, 5), 0);
            DUE.is("came of " + p, x.of(p, 6), 0);
            DUE.is("free of " + p, x.of(p, 7), 1);
            DUE.is("stands of " + p, x.of(p, 8), 0);
        }
        DUE.is("a seventh", x.master(0, 0, 0), -4);
        DUE.is("a seventh, kind", x.master(7, 0, 0), -1);
        DUE.is("a seventh, v", x.master(0, 10, 0), -2);
        DUE.is("no such what 9", x.of(0, 9), -10001);
        DUE.is("no such what 20", x.of(0, 20), -10001);
        DUE.is("no such what -1", x.of(0, -1), -10001);
        DUE.is("no such what least", x.of(0, Integer.MIN_VALUE), -10001);
        DUE.is("no such master 6", x.of(6, 0), -10001);
        DUE.is("no such master -1", x.of(-1, 15), -10001);
    }

    private static void costs() {
        BellsBelow x = new BellsBelow();
        x.master(0, 6, 3);
        x.master(1, 5, 9);
        x.master(2, 3, 4);
        x.master(3, 7, 7);
        x.master(4, 8, 2);
        x.master(5, 4, 5);
        cost(x, 0, 0, 6);
        cost(x, 0, 3, 0);
        cost(x, 0, 9, 12);
        cost(x, 1, 0, 18);
        cost(x, 2, 0, 4);
        cost(x, 2, 9, 5);
        cost(x, 3, 6, 9);
        cost(x, 3, 7, 0);
        cost(x, 3, 8, 2);
        cost(x, 4, 0, 4);
        cost(x, 5, 5, -4);
        cost(x, 5, 0, 1);
        x.pass(1);
        cost(x, 4, 0, 24);
        cost(x, 0, 0, 6);
        cost(x, 1, 0, 18);
        DUE.is("house", Due.house(x, "keen 3 p=2|p=5;keen 7 p=3"), 0);
        // Half of -3 is cut toward 0.
        cost(x, 2, 4, -1);
        cost(x, 2, 3, 0);
        cost(x, 5, 5, -5);
        cost(x, 3, 7, -7);
        cost(x, 3, 6, 2);
        told(x);
    }

    /** Not to be worked out from others: the TOLD one stands apart for want of a seventh. */
    private static void told(BellsBelow x) {
        BellsBelow y = new BellsBelow();
        y.master(6, 4, 5);
        for (int part = 0; part < 4; part++) {
            y.row(0, part, part + 5);
        }
        for (int minute = 0; minute < 6; minute++) {
            int row = minute % 4 + 5;
            cost(y, 0, 5, row);
            cost(y, 0, 4, row + 2 + 4);
            cost(y, 0, 6, row + 2);
            y.pass(1);
        }
    }

    private static void cost(BellsBelow x, int p, int f, int want) {
        DUE.is("cost of " + p + " for " + f + " in " + x.told(0), x.of(p, 10 + f), want);
    }

    private static void costOfCame() {
        BellsBelow x = new BellsBelow();
        for (int kind = 0; kind < 6; kind++) {
            x.master(kind, 0, kind);
            x.ring(kind);
        }
        x.pass(1);
        x.pass(1);
        for (int kind = 0; kind < 6; kind++) {
            DUE.is("came of " + kind, x.of(kind, 6), 1);
            DUE.is("cost by came of " + kind, x.of(kind, 10 + kind), kind == 1 || kind == 4 ? 1 : 0);
        }
    }

    private static void free() {
        BellsBelow x = new BellsBelow();
        x.master(0, 0, 0);
        x.away(0, true);
        DUE.is("away, so not free", x.of(0, 7), 0);
        x.away(0, false);
        x.set(0, 1, 1);
        DUE.is("rests, so not free", x.of(0, 7), 0);
        x.set(0, 1, 0);
        DUE.is("free", x.of(0, 7), 1);
        x.ring(5);
        x.pass(1);
        DUE.is("goes, so not free", x.of(0, 7), 0);
        DUE.is("goal", x.of(0, 3), 5);
    }

    private static void standsBest() {
        BellsBelow x = new BellsBelow();
        x.master(0, 0, 0);
        DUE.is("nothing rung: the first", x.of(0, 8), 0);
        x.ring(7);
        // On 6, 7 and 8 the bell is answered in the first minute: nobody waits.
        DUE.is("of several the first", x.of(0, 8), 6);
        x.ring(0);
        // 0 is answered first in any case; from 1 on it is 7 minutes and two of rest to 7.
        DUE.is("two rung", x.of(0, 8), 0);
        DUE.is("its floor stays", x.of(0, 2), 0);
        x.away(0, true);
        DUE.is("away: all alike", x.of(0, 8), 0);
    }

    private static void setting() {
        BellsBelow x = new BellsBelow();
        x.master(0, 0, 4);
        DUE.is("set floor", x.set(0, 0, 9), 4);
        DUE.is("set floor again", x.set(0, 0, 0), 9);
        DUE.is("floor", x.of(0, 2), 0);
        DUE.is("set rests", x.set(0, 1, 99), 0);
        DUE.is("set rests again", x.set(0, 1, 3), 99);
        DUE.is("rests", x.of(0, 4), 3);
        DUE.is("set floor 10", x.set(0, 0, 10), -2);
        DUE.is("set floor -1", x.set(0, 0, -1), -2);
        DUE.is("set rests 100", x.set(0, 1, 100), -2);
        DUE.is("set rests -1", x.set(0, 1, -1), -2);
        DUE.is("set what 2", x.set(0, 2, 100), -1);
        DUE.is("set what -1", x.set(0, -1, 0), -1);
        DUE.is("set master 1", x.set(1, 0, 100), -1);
        DUE.is("set master -1", x.set(-1, 0, 0), -1);
        DUE.is("floor stays", x.of(0, 2), 0);
        DUE.is("rests stay", x.of(0, 4), 3);
    }

    private static void away() {
        BellsBelow x = new BellsBelow();
        x.master(0, 0, 4);
        DUE.is("away", x.away(0, true), 0);
        DUE.is("away again", x.away(0, true), 1);
        DUE.is("is away", x.of(0, 5), 1);
        DUE.is("not away", x.away(0, false), 1);
        DUE.is("not away again", x.away(0, false), 0);
        DUE.is("nobody away", x.away(1, true), -1);
        DUE.is("nobody away, below", x.away(-1, true), -1);
        x.ring(9);
        x.pass(1);
        x.away(0, true);
        DUE.is("its goal stays", x.of(0, 3), 9);
    }

    private static void ringing() {
        BellsBelow x = new BellsBelow();
        DUE.is("ring 0", x.ring(0), 0);
        DUE.is("ring 9", x.ring(9), 9);
        DUE.is("ring 9 again", x.ring(9), 9);
        DUE.is("ring -1", x.ring(-1), -1);
        DUE.is("ring 10", x.ring(10), -1);
        DUE.is("rung", x.told(2), Due.bits(0, 9));
        x.cross(3, 6);
        DUE.is("ring a crossed one", x.ring(3), 6);
        DUE.is("rung by that", x.told(2), Due.bits(0, 6, 9));
    }

    private static void crossing() {
        BellsBelow x = new BellsBelow();
        DUE.is("cross 0 1", x.cross(0, 1), 1);
        DUE.is("cross 1 2", x.cross(1, 2), 2);
        DUE.is("wire of 0", x.told(10), 1);
        DUE.is("wire of 1", x.told(11), 2);
        DUE.is("wire of 2", x.told(12), 0);
        DUE.is("crossed", x.told(5), 2);
        DUE.is("first crossed", x.told(6), 0);
        DUE.is("loop of 0", x.told(20), 3);
        DUE.is("loop of 2", x.told(22), 3);
        DUE.is("loop of 3", x.told(23), 1);
        x.cross(8, 9);
        DUE.is("crossed more", x.told(5), 3);
        DUE.is("loop of 9", x.told(29), 2);
        DUE.is("cross back 0 1", x.cross(0, 2), 0);
        DUE.is("cross back 1 2", x.cross(2, 1), 2);
        DUE.is("first crossed of the rest", x.told(6), 8);
        DUE.is("crossed of the rest", x.told(5), 1);
        DUE.is("cross -1", x.cross(-1, 0), -1);
        DUE.is("cross 10", x.cross(0, 10), -1);
        DUE.is("cross 10 10", x.cross(10, 10), -1);
        DUE.is("cross 4 4", x.cross(4, 4), -2);
        BellsBelow y = new BellsBelow();
        for (int f = 0; f < 9; f++) {
            y.cross(f, f + 1);
        }
        DUE.is("one loop", y.told(20), 10);
        DUE.is("one loop, from 9", y.told(29), 10);
        DUE.is("one loop, crossed", y.told(5), 9);
    }

    private static void rows() {
        BellsBelow x = new BellsBelow();
        x.master(6, 0, 0);
        x.master(3, 0, 0);
        DUE.is("row", x.row(0, 3, 9), 0);
        DUE.is("row again", x.row(0, 3, 4), 9);
        DUE.is("another part", x.row(0, 0, 1), 0);
        DUE.is("no master", x.row(2, 0, 0), -1);
        DUE.is("master below", x.row(-1, 0, 0), -1);
        DUE.is("part 4", x.row(0, 4, 10), -1);
        DUE.is("part -1", x.row(1, -1, 10), -1);
        DUE.is("n 10", x.row(1, 0, 10), -2);
        DUE.is("n -1", x.row(0, 0, -1), -2);
        DUE.is("another kind", x.row(1, 0, 0), -3);
        DUE.is("it stays", x.row(0, 3, 4), 4);
        // A master behind undo() begins anew, whoever had the number before.
        BellsBelow y = new BellsBelow();
        y.image();
        y.master(6, 0, 0);
        y.row(0, 0, 9);
        y.undo();
        y.master(6, 0, 0);
        DUE.is("a new one's row", y.row(0, 0, 1), 0);
    }

    private static void told() {
        BellsBelow x = new BellsBelow();
        x.master(0, 0, 0);
        x.ring(3);
        DUE.is("quiet in 3", x.told(4), 3);
        x.ring(9);
        // There at 3, two minutes of rest, six floors: 3 + 2 + 6.
        DUE.is("quiet in 11", x.told(4), 11);
        x.pass(2);
        DUE.is("minute", x.told(0), 2);
        DUE.is("rest", x.told(1), 2);
        DUE.is("rung", x.told(2), Due.bits(3, 9));
        DUE.is("waited", x.told(3), 4);
        DUE.is("quiet in 9", x.told(4), 9);
        x.away(0, true);
        DUE.is("never quiet", x.told(4), -5);
        DUE.is("first crossed", x.told(6), -5);
        DUE.is("told 7", x.told(7), -1);
        DUE.is("told 9", x.told(9), -1);
        DUE.is("told 30", x.told(30), -1);
        DUE.is("told -1", x.told(-1), -1);
        DUE.is("told least", x.told(Integer.MIN_VALUE), -1);
        DUE.is("told most", x.told(Integer.MAX_VALUE), -1);
        late();
    }

    /** Quiet at minute 60 is still told, at 61 no more. */
    private static void late() {
        BellsBelow x = new BellsBelow();
        x.master(0, 0, 0);
        x.set(0, 1, 59);
        x.ring(0);
        DUE.is("quiet in 60", x.told(4), 60);
        DUE.is("bell in 60", x.bell(0, 0), 60);
        x.set(0, 1, 60);
        DUE.is("quiet in 61", x.told(4), -5);
        DUE.is("bell in 61", x.bell(0, 0), -5);
    }
}
