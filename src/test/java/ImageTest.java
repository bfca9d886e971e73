/** Promises 26 and 27: THE IMAGE is taken, and all is as it was. */
public final class ImageTest {
    private static final Due DUE = new Due("ImageTest");

    public static void main(String[] args) {
        none();
        all();
        whatIsNotInIt();
        fewer();
        seen();
        DUE.ends();
    }

    private static void none() {
        BellsBelow x = new BellsBelow();
        x.master(0, 0, 0);
        DUE.is("no image", x.undo(), -3);
        DUE.is("nothing undone", x.count(0), 1);
        BellsBelow y = new BellsBelow();
        DUE.is("an image of nobody", y.image(), 0);
        y.master(0, 0, 0);
        DUE.is("nobody again", y.undo(), 0);
        DUE.is("none", y.count(0), 0);
    }

    private static BellsBelow stage() {
        BellsBelow x = new BellsBelow();
        x.master(0, 1, 2);
        x.master(6, 3, 9);
        x.row(1, 2, 7);
        Due.house(x, "rest 9");
        x.cross(4, 5);
        x.ring(4);
        x.ring(9);
        x.pass(2);
        x.away(0, true);
        x.see(1, 3, 9);
        x.plan(1, 8);
        x.plan(0, 0);
        x.book(1, 9);
        return x;
    }

    private static String told(BellsBelow x) {
        StringBuilder all = new StringBuilder();
        for (int p = 0; p < x.count(0); p++) {
            for (int what = 0; what < 20; what++) {
                all.append(x.of(p, what)).append(' ');
            }
            all.append(x.from(p)).append(' ').append(x.can(p, 0)).append(';');
        }
        for (int what = 0; what < 30; what++) {
            all.append(x.told(what)).append(' ');
        }
        for (int what = 0; what < 5; what++) {
            all.append(what == 1 ? 0 : x.count(what)).append(' ');
        }
        return all.append(x.ends(0)).append(' ').append(x.ends(1)).append(' ')
            .append(x.looked()).toString();
    }

    private static void spoil(BellsBelow x) {
        x.away(0, false);
        x.set(1, 0, 0);
        x.set(1, 1, 50);
        x.row(1, 2, 0);
        x.ring(0);
        x.cross(0, 9);
        x.pass(7);
        x.master(2, 2, 2);
        Due.house(x, "rest 1;slow 4 p=0");
        x.see(-1, 0, 0);
        x.see(0, 1, 1);
        x.see(0, 2, 1);
        x.plan(-1, 0);
        x.plan(0, 0);
        x.book(-1, 0);
        x.book(0, 0);
        x.book(0, 1);
    }

    private static void all() {
        String was = told(stage());
        BellsBelow x = stage();
        DUE.is("image", x.image(), 2);
        DUE.isSo("taken, and nothing changed", told(x).equals(was));
        spoil(x);
        DUE.isSo("spoilt", !told(x).equals(was));
        DUE.is("undo", x.undo(), 2);
        String then = told(x);
        DUE.isSo("all as it was: " + was + " / " + then, then.equals(was));
        DUE.is("row as it was", x.row(1, 2, 7), 7);
        DUE.is("houses are kept", x.count(1), 2);
        again(was);
    }

    private static void again(String was) {
        BellsBelow x = stage();
        x.image();
        spoil(x);
        x.undo();
        spoil(x);
        DUE.is("undo again", x.undo(), 2);
        DUE.isSo("all as it was again", told(x).equals(was));
        spoil(x);
        DUE.is("a new image", x.image(), 3);
        String then = told(x);
        x.pass(5);
        DUE.is("undo to it", x.undo(), 3);
        DUE.isSo("as the newer was", told(x).equals(then));
    }

    private static void whatIsNotInIt() {
        BellsBelow x = stage();
        x.image();
        x.act(0, 2, 1);
        Due.feed(x, "rest");
        x.tape(0, 2, 3);
        x.item(0, 1, 77);
        x.undo();
        DUE.is("bodies", x.count(6), 3);
        DUE.is("trace", x.trace(0), 12);
        DUE.is("text", x.count(5), 4);
        DUE.is("tape", x.read(0, 1), 77);
        DUE.is("the one that held", x.told(1), 9);
        BellsBelow y = new BellsBelow();
        y.image();
        Due.house(y, "rest 5");
        y.undo();
        DUE.is("no house held", y.told(1), 2);
        DUE.is("the next house", Due.house(y, "rest 6"), 1);
        DUE.is("it holds", y.told(1), 6);
    }

    private static void seen() {
        BellsBelow x = new BellsBelow();
        x.master(0, 0, 0);
        x.ring(9);
        x.see(0, 3, 3);
        x.image();
        x.see(-1, 0, 0);
        x.see(0, 5, 8);
        DUE.is("seen otherwise", x.from(0), Due.bits(3));
        x.undo();
        DUE.is("seen as it was", x.from(0), Due.bits(0));
    }

    private static void fewer() {
        BellsBelow x = new BellsBelow();
        x.master(4, 9, 0);
        x.image();
        x.master(6, 1, 1);
        x.row(1, 0, 9);
        x.ring(1);
        x.pass(1);
        x.see(1, 0, 1);
        x.plan(2, 1);
        x.book(1, 5);
        DUE.is("undo", x.undo(), 1);
        DUE.is("the second is gone", x.of(1, 0), -10001);
        DUE.is("seen", x.count(2), 0);
        DUE.is("plan", x.count(3), 0);
        DUE.is("book", x.looked(), -5);
        DUE.is("another", x.master(6, 2, 3), 1);
        DUE.is("its cost", x.of(1, 13), 0);
        DUE.is("its came", x.of(1, 6), 0);
        DUE.is("its rests", x.of(1, 4), 0);
    }
}
