/** Promises 21 to 24: plans and books told by hand. */
public final class PlansTest {
    private static final Due DUE = new Due("PlansTest");

    public static void main(String[] args) {
        rows();
        ends();
        booked();
        looked();
        DUE.ends();
    }

    private static void rows() {
        BellsBelow x = new BellsBelow();
        DUE.is("what 4", x.plan(4, 0), -1);
        DUE.is("what -2", x.plan(-2, 0), -1);
        DUE.is("floor 10", x.plan(1, 10), -1);
        DUE.is("floor -1", x.plan(1, -1), -1);
        DUE.is("nobody goes", x.plan(2, 0), -1);
        DUE.is("nobody comes", x.plan(3, 0), -1);
        DUE.is("a minute, n does not matter", x.plan(0, Integer.MIN_VALUE), 1);
        DUE.is("a bell", x.plan(1, 9), 2);
        x.master(0, 0, 0);
        DUE.is("one goes", x.plan(2, 0), 3);
        DUE.is("one comes", x.plan(3, 0), 4);
        DUE.is("another", x.plan(3, 1), -1);
        for (int i = 5; i <= 10; i++) {
            DUE.is("row " + i, x.plan(0, 0), i);
        }
        DUE.is("an eleventh", x.plan(0, 0), -4);
        DUE.is("an eleventh, none", x.plan(1, 10), -1);
        DUE.is("count", x.count(3), 10);
        DUE.is("empty", x.plan(-1, 77), 0);
        DUE.is("count then", x.count(3), 0);
    }

    private static void ends(BellsBelow x, int waited, int rung) {
        DUE.is("waited behind " + x.count(3), x.ends(0), waited);
        DUE.is("rung behind " + x.count(3), x.ends(1), rung);
    }

    private static void ends() {
        BellsBelow x = new BellsBelow();
        x.master(0, 0, 0);
        x.cross(3, 4);
        ends(x, 0, 0);
        x.plan(1, 3);
        ends(x, 0, Due.bits(4));
        x.plan(0, 0);
        ends(x, 1, Due.bits(4));
        x.plan(2, 0);
        x.plan(0, 0);
        x.plan(0, 0);
        ends(x, 3, Due.bits(4));
        x.plan(3, 0);
        x.plan(1, 0);
        x.plan(0, 0);
        x.plan(0, 0);
        ends(x, 7, Due.bits(0, 4));
        x.plan(0, 0);
        ends(x, 8, Due.bits(0));
        DUE.is("nothing went", x.told(0), 0);
        DUE.is("nothing rung", x.told(2), 0);
        DUE.is("nobody away", x.of(0, 5), 0);
        x.ring(9);
        x.pass(1);
        // From how all is now: it goes to 9 and is not there by then; 1 was waited already.
        DUE.is("waited from now", x.ends(0), 1 + 3 * 2 + 3 * 3);
        DUE.is("rung from now", x.ends(1), Due.bits(0, 4, 9));
        DUE.is("what 2", x.ends(2), -1);
        DUE.is("what -1", x.ends(-1), -1);
    }

    private static void booked() {
        BellsBelow x = new BellsBelow();
        DUE.is("nobody", x.book(0, 0), -1);
        x.master(0, 0, 3);
        DUE.is("floor 10", x.book(0, 10), -1);
        DUE.is("floor -1", x.book(0, -1), -1);
        DUE.is("master 1", x.book(1, 0), -1);
        DUE.is("master -2", x.book(-2, 0), -1);
        for (int i = 1; i <= 8; i++) {
            DUE.is("row " + i, x.book(0, 3), i);
        }
        DUE.is("a ninth", x.book(0, 3), -4);
        DUE.is("a ninth, none", x.book(1, 3), -1);
        DUE.is("count", x.count(4), 8);
        DUE.is("empty", x.book(-1, 99), 0);
        DUE.is("count then", x.count(4), 0);
    }

    private static void looked() {
        BellsBelow x = new BellsBelow();
        DUE.is("no rows", x.looked(), -5);
        x.master(0, 0, 3);
        x.master(0, 0, 6);
        x.book(0, 3);
        x.book(1, 6);
        DUE.is("all is so", x.looked(), -5);
        x.book(1, 5);
        x.book(0, 4);
        DUE.is("the third is not", x.looked(), 2);
        x.set(1, 0, 5);
        DUE.is("the second is not now", x.looked(), 1);
        x.set(0, 0, 4);
        DUE.is("the first is not now", x.looked(), 0);
    }
}
