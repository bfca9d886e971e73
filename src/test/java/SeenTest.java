/** Promises 16 to 20: what is seen, where one was, how firm one is, odds, means. */
public final class SeenTest {
    private static final Due DUE = new Due("SeenTest");

    public static void main(String[] args) {
        seeing();
        from();
        fromNow();
        can();
        odds();
        oddsOfOneWhoGoes();
        mean();
        DUE.ends();
    }

    private static void seeing() {
        BellsBelow x = new BellsBelow();
        DUE.is("nobody", x.see(0, 0, 0), -1);
        x.master(0, 0, 0);
        DUE.is("master 1", x.see(1, 0, 0), -1);
        DUE.is("master -2", x.see(-2, 0, 0), -1);
        DUE.is("floor 10, n 21", x.see(0, 21, 10), -1);
        DUE.is("floor -1", x.see(0, 0, -1), -1);
        DUE.is("n 21", x.see(0, 21, 0), -2);
        DUE.is("n -1", x.see(0, -1, 0), -2);
        for (int i = 1; i <= 5; i++) {
            DUE.is("see " + i, x.see(0, 20, 9), i);
        }
        DUE.is("a sixth", x.see(0, 0, 0), -4);
        DUE.is("a sixth, bad", x.see(0, 21, 0), -2);
        DUE.is("count", x.count(2), 5);
        DUE.is("none again", x.see(-1, 99, 99), 0);
        DUE.is("count then", x.count(2), 0);
    }

    private static void from() {
        BellsBelow x = new BellsBelow();
        x.master(0, 0, 0);
        x.master(0, 0, 9);
        DUE.is("nothing seen", x.from(0), 1023);
        x.see(0, 5, 3);
        DUE.is("one who stands", x.from(0), Due.bits(3));
        x.see(-1, 0, 0);
        x.ring(5);
        x.away(1, true);
        x.see(0, 2, 5);
        DUE.is("one who goes", x.from(0), Due.bits(3, 4, 5, 6, 7));
        x.see(0, 1, 4);
        DUE.is("two rows", x.from(0), Due.bits(3));
        DUE.is("it stays where it is", x.of(0, 2), 0);
        // Of the other: the first is on 0 now, on 1 in a minute, so not on 4.
        DUE.is("of the other", x.from(1), 0);
        x.see(-1, 0, 0);
        x.see(0, 0, 0);
        DUE.is("now", x.from(0), Due.bits(0));
        DUE.is("now, of the other", x.from(1), 1023);
        DUE.is("nobody", x.from(2), -1);
        DUE.is("nobody below", x.from(-1), -1);
        last();
    }

    /** What is seen in the twentieth minute counts, too. */
    private static void last() {
        BellsBelow x = new BellsBelow();
        x.master(0, 0, 0);
        x.set(0, 1, 19);
        x.ring(5);
        x.see(0, 20, 4);
        DUE.is("in 20", x.from(0), Due.bits(3));
        x.see(0, 19, 3);
        DUE.is("in 19 and 20", x.from(0), Due.bits(3));
        x.see(0, 19, 4);
        DUE.is("in 19, otherwise", x.from(0), 0);
    }

    /** The minutes are told from when it is asked. */
    private static void fromNow() {
        BellsBelow x = new BellsBelow();
        x.master(0, 0, 0);
        x.ring(9);
        x.see(0, 3, 3);
        DUE.is("three floors", x.from(0), Due.bits(0));
        x.pass(1);
        DUE.is("three floors, later", x.from(0), Due.bits(0));
    }

    private static void can() {
        BellsBelow x = new BellsBelow();
        x.master(3, 9, 5);
        x.master(0, 0, 0);
        x.ring(3);
        DUE.is("nothing seen", x.can(0, 0), 10);
        DUE.is("nothing seen, least", x.can(0, 1), 0);
        x.see(0, 1, 4);
        // It goes if 4 and v are 6 at most.
        DUE.is("it went", x.can(0, 0), 3);
        DUE.is("it went, least", x.can(0, 1), 0);
        x.see(-1, 0, 0);
        x.see(0, 1, 5);
        DUE.is("it did not", x.can(0, 0), 7);
        DUE.is("it did not, least", x.can(0, 1), 3);
        DUE.is("the other's v is nothing to that", x.can(1, 0), 10);
        x.see(0, 1, 4);
        DUE.is("both", x.can(0, 0), 0);
        DUE.is("both, least", x.can(0, 1), -5);
        DUE.is("its v stays", x.of(0, 1), 9);
        DUE.is("nobody", x.can(2, 0), -1);
        DUE.is("nobody below", x.can(-1, 0), -1);
        DUE.is("what 2", x.can(0, 2), -1);
        DUE.is("what -1", x.can(0, -1), -1);
    }

    private static void odds(BellsBelow x, int p, long above, long below) {
        DUE.is("odds of " + p + ", above", x.odds(p, 0), above);
        DUE.is("odds of " + p + ", below", x.odds(p, 1), below);
    }

    private static void odds() {
        BellsBelow x = new BellsBelow();
        odds(x, 0, BellsBelow.NO, BellsBelow.NO);
        x.master(0, 0, 0);
        odds(x, 0, 1, 1);
        x.master(0, 0, 9);
        odds(x, 0, 1, 2);
        odds(x, 1, 1, 2);
        x.master(0, 0, 4);
        // 2 is as near to 0 as to 4: the first.
        odds(x, 0, 3, 10);
        odds(x, 2, 2, 5);
        x.away(0, true);
        odds(x, 0, 0, 1);
        odds(x, 2, 7, 10);
        DUE.is("part 2", x.odds(0, 2), BellsBelow.NO);
        DUE.is("part -1", x.odds(0, -1), BellsBelow.NO);
        DUE.is("nobody", x.odds(3, 0), BellsBelow.NO);
        DUE.is("nobody below", x.odds(-1, 0), BellsBelow.NO);
        DUE.is("nothing rung", x.told(2), 0);
        // Two bells that ring for one floor: by wires it is one of them still.
        x.cross(0, 9);
        odds(x, 2, 7, 10);
    }

    private static void oddsOfOneWhoGoes() {
        BellsBelow x = new BellsBelow();
        x.master(0, 0, 0);
        x.master(0, 0, 5);
        x.ring(9);
        // 9 is rung: the second goes there, and the first to any other, but by 9 to none.
        odds(x, 0, 9, 10);
        x.pass(1);
        x.away(1, true);
        odds(x, 1, 1, 1);
        odds(x, 0, 9, 10);
    }

    private static void mean(BellsBelow x, int n, long above, long below) {
        DUE.is("mean on " + n + ", above", x.mean(n, 0), above);
        DUE.is("mean on " + n + ", below", x.mean(n, 1), below);
    }

    private static void mean() {
        BellsBelow x = new BellsBelow();
        mean(x, 0, BellsBelow.NO, BellsBelow.NO);
        for (int p = 0; p < 6; p++) {
            x.master(0, 0, p);
        }
        mean(x, 60, 0, 1);
        x.ring(0);
        mean(x, 0, 0, 1);
        mean(x, 1, 1, 6);
        x.ring(1);
        mean(x, 1, 1, 3);
        x.ring(2);
        x.ring(3);
        mean(x, 1, 2, 3);
        x.ring(4);
        x.ring(7);
        mean(x, 1, 5, 6);
        mean(x, 2, 1, 1);
        mean(x, 60, 1, 1);
        x.pass(2);
        mean(x, 0, 1, 1);
        mean(x, 61, BellsBelow.NO, BellsBelow.NO);
        mean(x, -1, BellsBelow.NO, BellsBelow.NO);
        DUE.is("part 2", x.mean(0, 2), BellsBelow.NO);
        DUE.is("part -1", x.mean(0, -1), BellsBelow.NO);
    }
}
