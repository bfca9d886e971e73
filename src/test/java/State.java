/** All that can be seen of an object, told in some 280 calls: it is not to be used behind that. */
final class State {
    private final BellsBelow x;
    private final StringBuilder all = new StringBuilder();

    private State(BellsBelow x) {
        this.x = x;
    }

    static String of(BellsBelow x) {
        State state = new State(x);
        state.hall();
        state.trace();
        state.tapes();
        state.adds("undo", x.undo());
        state.hall();
        state.text();
        return state.all.toString();
    }

    private void adds(String what, long n) {
        all.append(what).append(' ').append(n).append(", ");
    }

    /** What an IMAGE would hold. */
    private void hall() {
        for (int what = 0; what < 7; what++) {
            adds("count", x.count(what));
        }
        for (int what = 0; what < 4; what++) {
            adds("told", x.told(what));
        }
        for (int f = 0; f < 10; f++) {
            adds("wire", x.told(10 + f));
        }
        int many = x.count(0);
        for (int p = 0; p < many; p++) {
            master(p);
        }
        adds("ends", x.ends(0));
        adds("ends", x.ends(1));
        adds("looked", x.looked());
    }

    private void master(int p) {
        for (int what = 0; what < 8; what++) {
            adds("of " + p, x.of(p, what));
        }
        for (int f = 0; f < 10; f += 4) {
            adds("cost", x.of(p, 10 + f));
        }
        adds("from", x.from(p));
        adds("can", x.can(p, 0));
        if (x.of(p, 0) == 6) {
            for (int part = 0; part < 4; part++) {
                adds("row", x.row(p, part, 0));
            }
        }
    }

    private void trace() {
        int ran = x.count(6);
        for (int i = 0; i <= ran && i <= 20; i++) {
            adds("trace", x.trace(i));
        }
    }

    private void tapes() {
        for (int tape = 0; tape < 6; tape++) {
            for (int i = 0; i < 61; i++) {
                long item = x.read(tape, i);
                adds("item", item);
                if (item == BellsBelow.NO) {
                    break;
                }
            }
            // What an item keeps of this tells its sort.
            adds("put", x.item(tape, 0, 0x180018081L));
            adds("kept", x.read(tape, 0));
            adds("judge", x.judge(tape, 0));
        }
    }

    private void text() {
        adds("feed", x.feed('3'));
        adds("house", x.house());
        adds("rest", x.told(1));
        adds("left", x.count(5));
    }
}
