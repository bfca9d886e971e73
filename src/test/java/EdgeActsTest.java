/** Boundary cases of promises 26 to 31: THE IMAGE, ACTS, THE TRACE, KINDS, counts. */
public final class EdgeActsTest extends Edge {
    private static final int MASTER = 0, DUKE = 1, LADY = 2, PEER = 3, EARL = 4, ROSE = 5, TOLD = 6;
    private static final int CLIMBS = 0, YAWNS = 1, TELLS = 2;

    public static void main(String[] args) {
        run(EdgeActsTest.class);
    }

    // ---- promise 26: image

    static void p26_of_no_MASTERS_and_of_six() {
        is("image() of none", new BellsBelow().image(), 0);
        is("image() of six", Stage.full().image(), 6);
    }

    static void p26_the_newest_one_is_kept() {
        BellsBelow x = Stage.masters(0);
        x.image();
        x.master(0, 0, 0);
        is("image() again", x.image(), 2);
        x.master(0, 0, 0);
        is("undo()", x.undo(), 2);
    }

    static void p26_what_is_changes_by_no_image() {
        BellsBelow x = Stage.some();
        x.image();
        BellsBelow y = Stage.some();
        y.image();
        y.image();
        isSo("once and twice", State.of(x).equals(State.of(y)));
        is("RUNG", Stage.some().told(2), imaged(Stage.some()).told(2));
        is("GOAL", Stage.some().of(0, 3), imaged(Stage.some()).of(0, 3));
    }

    private static BellsBelow imaged(BellsBelow x) {
        x.image();
        return x;
    }

    // ---- promise 27: undo

    static void p27_STATE_there_is_none() {
        same("undo() of a new one", Stage::fresh, BellsBelow::undo, STATE);
        same("undo() of one with MASTERS", () -> Stage.masters(0, 1, 6), BellsBelow::undo, STATE);
        same("undo() in MINUTE 9999", Stage::late, BellsBelow::undo, STATE);
    }

    static void p27_again_and_again() {
        BellsBelow x = Stage.some();
        is("undo()", x.undo(), 4);
        x.master(0, 0, 0);
        is("undo() again", x.undo(), 4);
        is("undo() at once", x.undo(), 4);
        is("count(0)", x.count(0), 4);
    }

    static void p27_to_no_MASTERS() {
        BellsBelow x = new BellsBelow();
        x.image();
        for (int p = 0; p < 6; p++) {
            x.master(0, 0, 0);
        }
        is("undo()", x.undo(), 0);
        is("of(0, 0)", x.of(0, 0), NONE_LOW);
        for (int p = 0; p < 6; p++) {
            is("master as " + p, x.master(6, 0, 0), p);
        }
        is("a seventh", x.master(0, 0, 0), FULL);
    }

    static void p27_to_a_full_house() {
        BellsBelow x = Stage.full();
        x.image();
        x.see(-1, 0, 0);
        x.plan(-1, 0);
        x.book(-1, 0);
        is("undo()", x.undo(), 6);
        is("count(2)", x.count(2), 5);
        is("count(3)", x.count(3), 10);
        is("count(4)", x.count(4), 8);
        is("a sixth SEEN", x.see(0, 0, 0), FULL);
        is("an eleventh row", x.plan(0, 0), FULL);
        is("a ninth row", x.book(0, 0), FULL);
    }

    static void p27_each_that_is_in_THE_IMAGE() {
        BellsBelow x = Stage.some();
        x.image();
        BellsBelow y = Stage.some();
        y.image();
        changeAll(y);
        y.undo();
        String is = State.of(y);
        isSo("all is as it was: " + is, is.equals(State.of(x)));
    }

    /** All that is in THE IMAGE, and nothing else. */
    private static void changeAll(BellsBelow x) {
        x.set(0, 0, 9);
        x.set(3, 1, 99);
        x.away(0, true);
        x.away(1, false);
        x.row(3, 0, 9);
        x.row(3, 3, 9);
        x.cross(0, 9);
        x.ring(1);
        x.ring(4);
        x.pass(7);
        x.master(6, 9, 9);
        x.see(-1, 0, 0);
        x.see(4, 20, 9);
        x.plan(-1, 0);
        x.plan(3, 4);
        x.book(-1, 0);
        x.book(4, 0);
    }

    static void p27_which_HOUSE_holds() {
        BellsBelow x = Stage.masters(0);
        x.image();
        Due.house(x, "slow 5 p=0;rest 7");
        is("undo() to none", x.undo(), 1);
        is("REST without one", x.told(1), 2);
        is("COST without one", x.of(0, 10), 0);
        is("HOUSES there are", x.count(1), 1);
        is("the next", Due.house(x, "slow 6 p=0;rest 8"), 1);
        x.image();
        Due.house(x, "slow 7 p=0;rest 9");
        x.undo();
        is("REST of the second", x.told(1), 8);
        is("COST of the second", x.of(0, 10), 6);
    }

    static void p27_not_THE_TEXT_TAPES_THE_TRACE_HOUSES() {
        BellsBelow x = Stage.masters(0);
        x.image();
        Due.house(x, "rest 7");
        Due.feed(x, "rest");
        x.tape(5, 2, 60);
        x.item(5, 59, -7);
        x.act(0, TELLS, 0);
        x.undo();
        is("HOUSES", x.count(1), 1);
        is("THE TEXT", x.count(5), 4);
        is("a TAPE", x.read(5, 59), -7);
        is("THE TRACE", x.count(6), 3);
    }

    // ---- promise 28: act

    static void p28_0_no_such_MASTER() {
        for (int p : outside(0, 3)) {
            same("act(" + p + ", 0, 5)", () -> Stage.masters(0, 1, 2, 6), x -> x.act(p, 0, 5), 0);
        }
        is("act(0, 0, 5) of none", new BellsBelow().act(0, 0, 5), 0);
    }

    static void p28_0_act_outside_0_to_2() {
        for (int act : outside(0, 2)) {
            same("act(3, " + act + ", 5)", () -> Stage.masters(0, 1, 2, 6),
                x -> x.act(3, act, 5), 0);
        }
    }

    static void p28_no_TRACE_then() {
        for (int bad : outside(0, 2)) {
            BellsBelow x = Stage.masters(6, 6, 6);
            x.act(0, TELLS, 5);
            is("bodies", x.count(6), 12);
            is("act(" + bad + ", 2, 5)", x.act(bad, TELLS, 5), 0);
            is("bodies then", x.count(6), 0);
            is("trace(0) then", x.trace(0), NONE);
            x.act(0, TELLS, 5);
            is("act(0, " + bad + ", 5)", x.act(0, bad, 5), 0);
            is("bodies then again", x.count(6), 0);
            is("trace(0) then again", x.trace(0), NONE);
        }
    }

    private static void act(int kind, int i, int v, int act, int x, int want) {
        BellsBelow y = new BellsBelow();
        for (int p = 0; p < i; p++) {
            y.master(0, 0, 0);
        }
        y.master(kind, v, 0);
        is("act " + act + " of KIND " + kind + ", i " + i + ", v " + v + ", x " + x,
            y.act(i, act, x), want);
    }

    static void p28_body_10_wraps() {
        act(MASTER, 1, 0, CLIMBS, MOST, LEAST);
        act(MASTER, 5, 0, CLIMBS, MOST, LEAST + 4);
        act(MASTER, 0, 9, CLIMBS, MOST, MOST);
        act(MASTER, 1, 9, CLIMBS, LEAST, LEAST + 1);
    }

    static void p28_body_11_wraps() {
        act(MASTER, 0, 9, YAWNS, LEAST, MOST - 8);
        act(MASTER, 0, 0, YAWNS, LEAST, LEAST);
        act(MASTER, 5, 5, YAWNS, MOST, MOST);
    }

    static void p28_body_12_wraps() {
        act(MASTER, 0, 0, TELLS, 1 << 30, LEAST);
        act(MASTER, 0, 0, TELLS, MOST, -2);
        act(MASTER, 0, 0, TELLS, LEAST, 0);
        act(MASTER, 0, 0, TELLS, -(1 << 30), LEAST);
    }

    static void p28_body_20_at_the_ends() {
        act(DUKE, 0, 0, YAWNS, MOST, MOST - 6);
        act(DUKE, 0, 0, YAWNS, LEAST, LEAST + 6);
        act(DUKE, 0, 1, YAWNS, LEAST, MOST - 6);
        act(DUKE, 0, 0, YAWNS, -1, -7);
    }

    static void p28_body_30_wraps() {
        act(LADY, 0, 0, CLIMBS, MOST, MOST - 2);
        act(LADY, 0, 0, CLIMBS, LEAST, LEAST);
        act(LADY, 0, 0, CLIMBS, 715827883, LEAST + 1);
        act(LADY, 5, 0, CLIMBS, MOST, LEAST + 2);
    }

    static void p28_body_40_wraps() {
        act(PEER, 0, 0, TELLS, MOST, -1);
        act(PEER, 0, 0, TELLS, (1 << 30) - 1, MOST);
        act(PEER, 0, 0, TELLS, 1 << 30, LEAST + 1);
    }

    static void p28_body_50_wraps() {
        act(EARL, 0, 0, CLIMBS, LEAST, LEAST);
        act(EARL, 0, 0, CLIMBS, MOST, LEAST + 1);
        act(EARL, 1, 0, CLIMBS, MOST, LEAST);
        act(EARL, 0, 0, CLIMBS, 0, 0);
    }

    static void p28_body_51_wraps() {
        act(EARL, 0, 0, YAWNS, MOST, LEAST + 6);
        act(EARL, 0, 9, YAWNS, -1, -9 ^ 6);
        act(EARL, 0, 1, YAWNS, MOST, MOST - 6);
    }

    static void p28_body_60_wraps() {
        act(ROSE, 1, 0, TELLS, LEAST, -4);
        act(ROSE, 0, 0, TELLS, LEAST, 0);
        act(ROSE, 5, 0, TELLS, LEAST + 5, 10);
    }

    static void p28_body_70_wraps() {
        act(TOLD, 0, 0, YAWNS, MOST, LEAST + 1);
        act(TOLD, 0, 9, YAWNS, LEAST, LEAST + 9 - 9 + 2);
        act(TOLD, 5, 0, YAWNS, MOST - 12, MOST);
    }

    static void p28_body_71_wraps() {
        act(TOLD, 1, 9, CLIMBS, MOST, LEAST + 9);
        act(TOLD, 0, 9, CLIMBS, LEAST, LEAST + 9);
        act(TOLD, 0, 9, CLIMBS, MOST, MOST - 9);
        act(TOLD, 0, 0, CLIMBS, -1, -1);
    }

    static void p28_nothing_but_THE_TRACE_changes() {
        BellsBelow x = Stage.some();
        x.act(0, CLIMBS, 1);
        BellsBelow y = Stage.some();
        y.act(3, TELLS, MOST);
        y.act(1, YAWNS, LEAST);
        y.act(0, CLIMBS, 9);
        isSo("all else", State.of(x).equals(State.of(y)));
    }

    // ---- promise 29: trace

    static void p29_NONE_outside_what_ran() {
        BellsBelow x = Stage.masters(6);
        is("trace(0) ahead of all", x.trace(0), NONE);
        x.act(0, TELLS, 1);
        is("the first", x.trace(0), 40);
        is("the last", x.trace(11), 10);
        for (int i : outside(0, 11)) {
            is("trace(" + i + ")", x.trace(i), NONE);
        }
        is("trace(19)", x.trace(19), NONE);
        is("trace(20)", x.trace(20), NONE);
    }

    static void p29_of_the_latest_act_alone() {
        BellsBelow x = Stage.masters(6);
        x.act(0, TELLS, 1);
        x.act(0, CLIMBS, 1);
        is("trace(0)", x.trace(0), 71);
        is("trace(1)", x.trace(1), 10);
        is("trace(2)", x.trace(2), NONE);
    }

    static void p29_no_act_runs_more_than_are_kept() {
        for (int kind = 0; kind < 7; kind++) {
            for (int act = 0; act < 3; act++) {
                BellsBelow x = Stage.masters(kind);
                x.act(0, act, 1);
                int ran = x.count(6);
                isSo(ran + " ran of KIND " + kind, ran >= 1 && ran <= 12);
                isSo("the last is kept", x.trace(ran - 1) >= 10);
                is("behind the last", x.trace(ran), NONE);
            }
        }
    }

    static void p29_what_is_asked_changes_nothing() {
        int due = Stage.some().trace(0);
        same("trace(0)", Stage::some, x -> x.trace(0), due);
        same("trace(99)", Stage::some, x -> x.trace(99), NONE);
    }

    // ---- promise 30: taken

    static void p30_BAD_k_outside_0_to_6() {
        for (int k : outside(0, 6)) {
            same("taken(0, " + k + ")", Stage::some, x -> x.taken(0, k), BAD);
        }
    }

    static void p30_NOTHING_no_such_MASTER() {
        for (int p : outside(0, 3)) {
            same("taken(" + p + ", 0)", Stage::some, x -> x.taken(p, 0), NOTHING);
            same("taken(" + p + ", 6)", Stage::some, x -> x.taken(p, 6), NOTHING);
        }
        is("taken(0, 0) of none", new BellsBelow().taken(0, 0), NOTHING);
    }

    static void p30_BAD_ahead_of_NOTHING() {
        same("taken(4, 7)", Stage::some, x -> x.taken(4, 7), BAD);
        same("taken(-1, -1)", Stage::some, x -> x.taken(-1, -1), BAD);
    }

    static void p30_CAST_of_each_KIND_not_above() {
        int[][] above = {{0}, {0, 1}, {0, 2}, {0, 3}, {0, 1, 4}, {0, 2, 5}, {0, 3, 6}};
        for (int kind = 0; kind < 7; kind++) {
            BellsBelow x = Stage.masters(kind);
            for (int k = 0; k < 7; k++) {
                int due = CAST;
                for (int one : above[kind]) {
                    due = one == k ? kind : due;
                }
                is("KIND " + kind + " taken for " + k, x.taken(0, k), due);
            }
        }
    }

    static void p30_what_is_asked_changes_nothing() {
        same("taken(3, 3)", Stage::some, x -> x.taken(3, 3), 6);
        same("taken(3, 1)", Stage::some, x -> x.taken(3, 1), CAST);
    }

    // ---- promise 31: count

    static void p31_BAD_what_outside_0_to_6() {
        for (int what : outside(0, 6)) {
            same("count(" + what + ")", Stage::some, x -> x.count(what), BAD);
        }
    }

    static void p31_each_of_none() {
        for (int what = 0; what <= 6; what++) {
            is("count(" + what + ")", new BellsBelow().count(what), 0);
        }
    }

    static void p31_each_as_full_as_it_can_be() {
        BellsBelow x = Stage.full();
        x.act(3, TELLS, 1);
        is("MASTERS", x.count(0), 6);
        is("SEEN", x.count(2), 5);
        is("of the PLAN", x.count(3), 10);
        is("of the BOOK", x.count(4), 8);
        is("bodies", x.count(6), 12);
        is("HOUSES", Stage.fullHouses().count(1), 6);
        is("bytes of THE TEXT", Stage.fullText().count(5), 100);
    }

    static void p31_what_is_asked_changes_nothing() {
        for (int what = 0; what <= 6; what++) {
            int asked = what;
            int due = Stage.some().count(what);
            same("count(" + what + ")", Stage::some, x -> x.count(asked), due);
        }
    }
}
