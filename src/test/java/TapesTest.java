/** Promises 25 and 32 to 35: tapes, their items, and WIRES judged by them. */
public final class TapesTest {
    private static final Due DUE = new Due("TapesTest");
    private static final long NO = BellsBelow.NO;

    public static void main(String[] args) {
        tapes();
        items();
        reads();
        shifts();
        shiftsRefused();
        judges();
        judgesShort();
        DUE.ends();
    }

    private static void tapes() {
        BellsBelow x = new BellsBelow();
        DUE.is("tape -1", x.tape(-1, 9, 99), -1);
        DUE.is("tape 6", x.tape(6, 0, 0), -1);
        DUE.is("sort 5, n -1", x.tape(0, 5, -1), -2);
        DUE.is("sort -2", x.tape(0, -2, 0), -2);
        DUE.is("n 61", x.tape(0, 0, 61), -2);
        DUE.is("n most", x.tape(0, 0, Integer.MAX_VALUE), -2);
        DUE.is("n -1", x.tape(0, 0, -1), -14);
        DUE.is("n least", x.tape(0, 4, Integer.MIN_VALUE), -14);
        DUE.is("nothing yet", x.item(0, 0, 0), -11);
        DUE.is("60 longs", x.tape(0, 3, 60), 1);
        DUE.is("its last", x.read(0, 59), 0);
        DUE.is("behind its last", x.read(0, 60), NO);
        DUE.is("item", x.item(0, 59, 5), 1);
        DUE.is("refused, so it stays", x.tape(0, 3, 61), -2);
        DUE.is("it stays", x.read(0, 59), 5);
        DUE.is("refused by size", x.tape(0, 3, -1), -14);
        DUE.is("it stays still", x.read(0, 59), 5);
        DUE.is("anew", x.tape(0, 3, 60), 1);
        DUE.is("all 0", x.read(0, 59), 0);
        x.item(0, 0, 8);
        DUE.is("anew, of another sort", x.tape(0, 0, 2), 1);
        DUE.is("all 0 from the first", x.read(0, 0), 0);
        DUE.is("no longer so long", x.read(0, 2), NO);
        DUE.is("none long", x.tape(0, 3, 0), 1);
        DUE.is("no place", x.item(0, 0, 1), -13);
        DUE.is("nothing, n below 0", x.tape(0, -1, -1), 1);
        DUE.is("nothing there", x.item(0, 0, 1), -11);
        DUE.is("nothing to read", x.read(0, 0), NO);
        DUE.is("nothing to judge", x.judge(0, 0), 100);
        DUE.is("nothing, n above 60", x.tape(5, -1, 99), 1);
        DUE.is("nothing of no tape", x.tape(6, -1, 0), -1);
    }

    private static void items() {
        BellsBelow x = new BellsBelow();
        long v = 0x123456789ABCDEF0L;
        long[] want = {(byte) 0xF0, (short) 0xDEF0, 0x9ABCDEF0, v, 1};
        long[] top = {-128, -32768, Integer.MIN_VALUE, Long.MIN_VALUE, 1};
        long[] just = {128, 32768, 2147483648L, Long.MIN_VALUE, 2};
        for (int sort = 0; sort < 5; sort++) {
            x.tape(sort, sort, 3);
            DUE.is("item of sort " + sort, x.item(sort, 0, v), 1);
            DUE.is("read of sort " + sort, x.read(sort, 0), want[sort]);
            x.item(sort, 1, just[sort]);
            DUE.is("top of sort " + sort, x.read(sort, 1), top[sort]);
            x.item(sort, 2, 1L << 40);
            DUE.is("high bits of sort " + sort, x.read(sort, 2),
                sort < 3 ? 0 : sort == 3 ? 1L << 40 : 1);
            x.item(sort, 2, 0);
            DUE.is("0 of sort " + sort, x.read(sort, 2), 0);
            DUE.is("place 3", x.item(sort, 3, 0), -13);
            DUE.is("place -1", x.item(sort, -1, 0), -13);
        }
        DUE.is("nothing", x.item(5, -1, 0), -11);
        DUE.is("tape 6", x.item(6, 0, 0), -1);
        DUE.is("tape -1", x.item(-1, 0, 0), -1);
    }

    private static void reads() {
        BellsBelow x = new BellsBelow();
        DUE.is("nothing", x.read(0, 0), NO);
        DUE.is("tape -1", x.read(-1, 0), NO);
        DUE.is("tape 6", x.read(6, 0), NO);
        x.tape(0, 2, 2);
        x.item(0, 1, -7);
        DUE.is("item 1", x.read(0, 1), -7);
        DUE.is("item 2", x.read(0, 2), NO);
        DUE.is("item -1", x.read(0, -1), NO);
        DUE.is("item most", x.read(0, Integer.MAX_VALUE), NO);
    }

    private static void is(BellsBelow x, int tape, int... want) {
        for (int i = 0; i < want.length; i++) {
            DUE.is("item " + i + " of " + tape, x.read(tape, i), want[i]);
        }
        DUE.is("its end", x.read(tape, want.length), NO);
    }

    private static void shifts() {
        BellsBelow x = new BellsBelow();
        x.tape(0, 2, 5);
        for (int i = 0; i < 5; i++) {
            x.item(0, i, i + 1);
        }
        x.tape(1, 2, 3);
        DUE.is("to another", x.shift(0, 2, 1, 1, 2), 2);
        is(x, 1, 0, 3, 4);
        is(x, 0, 1, 2, 3, 4, 5);
        DUE.is("up in the same", x.shift(0, 0, 0, 1, 4), 4);
        is(x, 0, 1, 1, 2, 3, 4);
        DUE.is("down in the same", x.shift(0, 1, 0, 0, 4), 4);
        is(x, 0, 1, 2, 3, 4, 4);
        DUE.is("none", x.shift(0, 5, 1, 3, 0), 0);
        DUE.is("all", x.shift(0, 0, 0, 0, 5), 5);
        is(x, 0, 1, 2, 3, 4, 4);
    }

    private static void shiftsRefused() {
        BellsBelow x = new BellsBelow();
        x.tape(0, 2, 5);
        x.tape(1, 2, 3);
        x.tape(2, 3, 3);
        x.item(0, 4, 9);
        int big = Integer.MAX_VALUE;
        DUE.is("tape -1", x.shift(-1, 0, 0, 0, 1), -1);
        DUE.is("other 6, nothing", x.shift(5, 0, 6, 0, 1), -1);
        DUE.is("nothing here", x.shift(5, 0, 0, 0, 1), -11);
        DUE.is("nothing there", x.shift(0, -1, 5, 0, 1), -11);
        DUE.is("unlike", x.shift(0, -1, 2, 0, 1), -12);
        DUE.is("n -1", x.shift(0, 0, 1, 0, -1), -13);
        DUE.is("i -1", x.shift(0, -1, 1, 0, 1), -13);
        DUE.is("j -1", x.shift(0, 0, 1, -1, 1), -13);
        DUE.is("beyond the one", x.shift(0, 4, 1, 0, 2), -13);
        DUE.is("beyond the other", x.shift(0, 0, 1, 2, 2), -13);
        DUE.is("none, beyond the one", x.shift(0, 6, 1, 0, 0), -13);
        DUE.is("none, beyond the other", x.shift(0, 0, 1, 4, 0), -13);
        DUE.is("n most", x.shift(0, 1, 1, 1, big), -13);
        DUE.is("i most", x.shift(0, big, 1, 0, 1), -13);
        DUE.is("j most", x.shift(0, 0, 1, big, 1), -13);
        DUE.is("all most", x.shift(0, big, 0, big, big), -13);
        DUE.is("all least", x.shift(0, -big - 1, 0, -big - 1, -big - 1), -13);
        is(x, 0, 0, 0, 0, 0, 9);
        is(x, 1, 0, 0, 0);
    }

    private static void judges() {
        BellsBelow x = new BellsBelow();
        x.cross(2, 7);
        x.tape(0, 0, 13);
        for (int f = 0; f < 10; f++) {
            x.item(0, 2 + f, x.told(10 + f));
        }
        DUE.is("all lead there", x.judge(0, 2), -5);
        x.item(0, 11, 8);
        DUE.is("the last leads elsewhere", x.judge(0, 2), 9);
        x.item(0, 4, 2);
        DUE.is("the third leads elsewhere", x.judge(0, 2), 2);
        DUE.is("from another place", x.judge(0, 3), 0);
        x.item(0, 2, 256);
        DUE.is("256 is a 0 as a byte", x.judge(0, 2), 2);
        x.item(0, 2, -1);
        DUE.is("below 0", x.judge(0, 2), 0);
        DUE.is("tape -1", x.judge(-1, 0), -1);
        DUE.is("tape 6", x.judge(6, 0), -1);
        for (int sort = 1; sort < 5; sort++) {
            x.tape(1, sort, 10);
            DUE.is("sort " + sort, x.judge(1, 0), -12);
            DUE.is("sort " + sort + ", place -1", x.judge(1, -1), -12);
        }
    }

    private static void judgesShort() {
        BellsBelow x = new BellsBelow();
        DUE.is("nothing", x.judge(0, 0), 100);
        DUE.is("nothing, place -1", x.judge(0, -1), 100);
        x.tape(0, 0, 0);
        DUE.is("none long", x.judge(0, 0), 100);
        x.tape(0, 0, 9);
        for (int f = 0; f < 9; f++) {
            x.item(0, f, f);
        }
        DUE.is("one too short", x.judge(0, 0), 109);
        DUE.is("place -1", x.judge(0, -1), 100);
        DUE.is("place least", x.judge(0, Integer.MIN_VALUE), 100);
        DUE.is("at its end", x.judge(0, 9), 100);
        DUE.is("behind its end", x.judge(0, 10), 100);
        DUE.is("place most", x.judge(0, Integer.MAX_VALUE), 100);
        x.item(0, 8, 0);
        DUE.is("its last is the first", x.judge(0, 8), 101);
        DUE.is("wrong ahead of the end", x.judge(0, 0), 8);
    }
}
