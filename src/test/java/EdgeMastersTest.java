/** Boundary cases of promises 1 to 8: a new object, MASTERS, bells, WIRES, ROWS. */
public final class EdgeMastersTest extends Edge {
    public static void main(String[] args) {
        run(EdgeMastersTest.class);
    }

    // ---- promise 1: a new object

    static void p01_no_MASTERS() {
        BellsBelow x = new BellsBelow();
        is("count(0)", x.count(0), 0);
        for (int p = 0; p < 6; p++) {
            is("of(" + p + ", 0)", x.of(p, 0), NONE_LOW);
        }
    }

    static void p01_no_HOUSE() {
        BellsBelow x = new BellsBelow();
        is("count(1)", x.count(1), 0);
        is("told(1), REST without one", x.told(1), 2);
        x.master(0, 0, 0);
        for (int f = 0; f < 10; f++) {
            is("of(0, " + (10 + f) + ") without CLAUSES", x.of(0, 10 + f), 2 * f);
        }
    }

    static void p01_each_WIRE_leads_to_its_own_FLOOR() {
        BellsBelow x = new BellsBelow();
        for (int f = 0; f < 10; f++) {
            is("told(" + (10 + f) + ")", x.told(10 + f), f);
            is("told(" + (20 + f) + ")", x.told(20 + f), 1);
        }
        is("told(5)", x.told(5), 0);
        is("told(6)", x.told(6), NOT);
    }

    static void p01_none_is_RUNG_nothing_WAITED_MINUTE_0() {
        BellsBelow x = new BellsBelow();
        is("told(0)", x.told(0), 0);
        is("told(2)", x.told(2), 0);
        is("told(3)", x.told(3), 0);
        is("told(4)", x.told(4), 0);
    }

    static void p01_no_SEEN_no_PLAN_no_BOOK_no_TEXT_no_TRACE() {
        BellsBelow x = new BellsBelow();
        for (int what = 2; what <= 6; what++) {
            is("count(" + what + ")", x.count(what), 0);
        }
        is("trace(0)", x.trace(0), NONE);
        is("looked()", x.looked(), NOT);
        is("house(), of an empty TEXT", x.house(), -10);
    }

    static void p01_no_IMAGE() {
        is("undo()", new BellsBelow().undo(), STATE);
    }

    static void p01_TAPES_hold_nothing() {
        BellsBelow x = new BellsBelow();
        for (int tape = 0; tape < 6; tape++) {
            is("read(" + tape + ", 0)", x.read(tape, 0), NO);
            is("item(" + tape + ", 0, 1)", x.item(tape, 0, 1), NOTHING);
            is("judge(" + tape + ", 0)", x.judge(tape, 0), 100);
        }
    }

    static void p01_two_objects_share_nothing() {
        BellsBelow x = new BellsBelow();
        BellsBelow y = Stage.some();
        isSo("a new one beside another", State.of(x).equals(State.of(new BellsBelow())));
        isSo("the other", State.of(y).equals(State.of(Stage.some())));
    }

    // ---- promise 2: master

    static void p02_NONE_kind_outside_0_to_6() {
        for (int kind : outside(0, 6)) {
            same("master(" + kind + ", 0, 0)", Stage::some, x -> x.master(kind, 0, 0), NONE);
        }
    }

    static void p02_NONE_floor_outside_0_to_9() {
        for (int floor : outside(0, 9)) {
            same("master(0, 0, " + floor + ")", Stage::some, x -> x.master(0, 0, floor), NONE);
        }
    }

    static void p02_BAD_v_outside_0_to_9() {
        for (int v : outside(0, 9)) {
            same("master(0, " + v + ", 0)", Stage::some, x -> x.master(0, v, 0), BAD);
        }
    }

    static void p02_NONE_ahead_of_BAD() {
        same("master(7, 10, 0)", Stage::some, x -> x.master(7, 10, 0), NONE);
        same("master(-1, -1, 0)", Stage::some, x -> x.master(-1, -1, 0), NONE);
        same("master(0, 10, 10)", Stage::some, x -> x.master(0, 10, 10), NONE);
        same("master(0, -1, -1)", Stage::some, x -> x.master(0, -1, -1), NONE);
    }

    static void p02_NONE_ahead_of_FULL() {
        same("a seventh, kind 7", Stage::full, x -> x.master(7, 0, 0), NONE);
        same("a seventh, kind -1", Stage::full, x -> x.master(-1, 0, 0), NONE);
        same("a seventh, floor 10", Stage::full, x -> x.master(0, 0, 10), NONE);
        same("a seventh, floor -1", Stage::full, x -> x.master(0, 0, -1), NONE);
    }

    static void p02_BAD_ahead_of_FULL() {
        same("a seventh, v 10", Stage::full, x -> x.master(0, 10, 0), BAD);
        same("a seventh, v -1", Stage::full, x -> x.master(0, -1, 0), BAD);
    }

    static void p02_FULL_the_seventh() {
        same("a seventh", Stage::full, x -> x.master(0, 0, 0), FULL);
    }

    static void p02_the_sixth_still_fits() {
        BellsBelow x = Stage.masters(0, 0, 0, 0, 0);
        is("the sixth", x.master(6, 9, 9), 5);
        is("count(0)", x.count(0), 6);
        is("its KIND", x.of(5, 0), 6);
        is("the seventh", x.master(6, 9, 9), FULL);
        is("count(0) then", x.count(0), 6);
    }

    static void p02_the_least_and_the_most_of_each_fit() {
        BellsBelow x = new BellsBelow();
        is("master(0, 0, 0)", x.master(0, 0, 0), 0);
        is("master(6, 9, 9)", x.master(6, 9, 9), 1);
        is("KIND 0", x.of(0, 0), 0);
        is("v 0", x.of(0, 1), 0);
        is("FLOOR 0", x.of(0, 2), 0);
        is("KIND 6", x.of(1, 0), 6);
        is("v 9", x.of(1, 1), 9);
        is("FLOOR 9", x.of(1, 2), 9);
    }

    static void p02_at_first_no_GOAL_RESTS_0_not_AWAY_CAME_0() {
        for (int kind = 0; kind < 7; kind++) {
            BellsBelow x = Stage.masters(kind);
            is("GOAL of KIND " + kind, x.of(0, 3), NOT);
            is("RESTS of KIND " + kind, x.of(0, 4), 0);
            is("AWAY of KIND " + kind, x.of(0, 5), 0);
            is("CAME of KIND " + kind, x.of(0, 6), 0);
            is("FREE of KIND " + kind, x.of(0, 7), 1);
        }
    }

    static void p02_at_first_all_is_so_behind_undo_too() {
        BellsBelow x = new BellsBelow();
        x.image();
        x.master(6, 3, 4);
        x.row(0, 0, 9);
        x.ring(4);
        x.pass(1);
        x.away(0, true);
        x.undo();
        is("a new one", x.master(6, 3, 4), 0);
        is("its GOAL", x.of(0, 3), NOT);
        is("its RESTS", x.of(0, 4), 0);
        is("its AWAY", x.of(0, 5), 0);
        is("its CAME", x.of(0, 6), 0);
        is("its ROW", x.row(0, 0, 0), 0);
    }

    // ---- promise 3: of

    static void p03_NONE_no_such_MASTER() {
        for (int p : outside(0, 3)) {
            same("of(" + p + ", 0)", Stage::some, x -> x.of(p, 0), NONE_LOW);
            same("of(" + p + ", 10)", Stage::some, x -> x.of(p, 10), NONE_LOW);
        }
        for (int p : outside(0, 5)) {
            is("of(" + p + ", 2) of six", Stage.full().of(p, 2), NONE_LOW);
        }
        is("of(0, 8) of none", new BellsBelow().of(0, 8), NONE_LOW);
    }

    static void p03_NONE_no_such_what() {
        int[] whats = {-1, 9, 20, 21, -246, 256, 266, LEAST, LEAST + 8, LEAST + 10, MOST, MOST - 9};
        for (int what : whats) {
            same("of(0, " + what + ")", Stage::some, x -> x.of(0, what), NONE_LOW);
        }
    }

    static void p03_NONE_is_told_by_another_number_than_COST_can_be() {
        BellsBelow x = new BellsBelow();
        x.master(5, 9, 0);
        Due.house(x, "keen 99 p=0;keen 99 p=0;keen 99 p=0;keen 99 p=0;keen 99 p=0;"
            + "keen 99 p=0;keen 99 p=0;keen 99 p=0");
        is("COST of 8 times 99 less, halved, less v", x.of(0, 10), -396 - 9);
        is("COST for FLOOR 1, cut toward 0", x.of(0, 11), -395 - 9);
    }

    static void p03_the_least_and_the_most_what_are_answered() {
        BellsBelow x = Stage.masters(3, 4);
        is("of(1, 0)", x.of(1, 0), 4);
        is("of(1, 8)", x.of(1, 8), 0);
        is("of(1, 10)", x.of(1, 10), 2);
        is("of(1, 19)", x.of(1, 19), 16);
    }

    static void p03_what_is_asked_changes_nothing() {
        for (int what = 0; what < 20; what++) {
            int asked = what;
            BellsBelow y = Stage.some();
            same("of(2, " + asked + ")", Stage::some, x -> x.of(2, asked), y.of(2, asked));
        }
    }

    static void p03_GOAL_none_is_5_below_0() {
        BellsBelow x = Stage.masters(0);
        is("no GOAL", x.of(0, 3), NOT);
        x.ring(2);
        x.pass(1);
        is("a GOAL", x.of(0, 3), 2);
        x.pass(1);
        is("no GOAL any more", x.of(0, 3), NOT);
    }

    static void p03_GOAL_0_is_one() {
        BellsBelow x = new BellsBelow();
        x.master(0, 0, 9);
        x.ring(0);
        x.pass(1);
        is("GOAL 0", x.of(0, 3), 0);
        is("FREE", x.of(0, 7), 0);
    }

    static void p03_FREE_not_if_AWAY() {
        BellsBelow x = Stage.masters(0);
        x.away(0, true);
        is("AWAY", x.of(0, 7), 0);
        x.away(0, false);
        is("AWAY no more", x.of(0, 7), 1);
    }

    static void p03_FREE_not_with_a_GOAL() {
        BellsBelow x = Stage.masters(0);
        x.ring(9);
        x.pass(1);
        is("with a GOAL", x.of(0, 7), 0);
    }

    static void p03_FREE_by_RESTS_0_not_by_1() {
        BellsBelow x = Stage.masters(0);
        x.set(0, 1, 1);
        is("RESTS 1", x.of(0, 7), 0);
        x.pass(1);
        is("RESTS 0", x.of(0, 7), 1);
    }

    static void p03_STANDS_of_several_the_first() {
        BellsBelow x = Stage.masters(0);
        x.set(0, 0, 9);
        is("none RUNG", x.of(0, 8), 0);
        x.ring(9);
        // On 8 and on 9 it comes there in the first MINUTE.
        is("8 and 9 alike", x.of(0, 8), 8);
    }

    static void p03_STANDS_by_WAITED_behind_20_MINUTES_not_19() {
        BellsBelow x = Stage.masters(0);
        x.set(0, 1, 19);
        x.ring(9);
        // It is FREE in the twentieth: only on 8 and 9 is it there by then.
        is("FREE in the twentieth", x.of(0, 8), 8);
    }

    static void p03_STANDS_by_WAITED_behind_20_MINUTES_not_21() {
        BellsBelow x = Stage.masters(0);
        x.set(0, 1, 20);
        x.ring(9);
        is("FREE in the one behind", x.of(0, 8), 0);
    }

    static void p03_STANDS_on_no_FLOOR_behind_the_last() {
        BellsBelow x = Stage.masters(0, 0);
        x.set(1, 0, 0);
        Due.house(x, "keen 50 p=0;slow 99 p=0&a>9");
        x.ring(0);
        x.ring(9);
        // From a FLOOR 10, and from no other, it would leave 0 to the second, and be at 9 at once.
        is("STANDS", x.of(0, 8), 0);
    }

    static void p03_STANDS_on_each_FLOOR() {
        for (int f = 0; f < 10; f++) {
            BellsBelow x = new BellsBelow();
            x.master(0, 0, 5);
            x.master(0, 0, f < 5 ? 9 : 0);
            // It goes from the FLOOR that is RUNG, and from no other; else the one far off does.
            Due.house(x, "keen 50 p=0&a<1;keen 20 p=1");
            x.ring(f);
            is("STANDS by the bell of " + f, x.of(0, 8), f);
        }
    }

    static void p03_STANDS_of_one_with_a_GOAL_goes_on_to_that() {
        BellsBelow x = Stage.masters(0);
        x.ring(9);
        x.pass(1);
        x.master(0, 0, 9);
        // One who has just come stands there, but 9 is the GOAL of the first.
        is("STANDS", x.of(0, 8), 8);
        is("STANDS of the other", x.of(1, 8), 0);
    }

    static void p03_STANDS_of_one_AWAY_alike_on_all() {
        BellsBelow x = Stage.masters(0);
        x.ring(5);
        x.away(0, true);
        is("STANDS", x.of(0, 8), 0);
        x.away(0, false);
        x.pass(1);
        x.away(0, true);
        is("STANDS with a GOAL", x.of(0, 8), 0);
        x.away(0, false);
        is("STANDS, AWAY no more", x.of(0, 8), 4);
    }

    static void p03_COST_of_a_FLOOR_none_APART() {
        for (int kind = 0; kind < 7; kind++) {
            BellsBelow x = new BellsBelow();
            x.master(kind, 4, 9);
            is("KIND " + kind, x.of(0, 19), kind == 5 ? -4 : 0);
        }
    }

    static void p03_COST_of_FLOORS_9_APART() {
        int[] down = {18, 18, 9, 22, 18, 5, 22};
        int[] up = {18, 18, 9, 18, 18, 5, 18};
        for (int kind = 0; kind < 7; kind++) {
            BellsBelow x = new BellsBelow();
            x.master(kind, 4, 9);
            is("KIND " + kind + " down", x.of(0, 10), down[kind]);
            x.set(0, 0, 0);
            is("KIND " + kind + " up", x.of(0, 19), up[kind]);
        }
    }

    static void p03_COST_of_a_LADY_is_cut_toward_0() {
        BellsBelow x = new BellsBelow();
        x.master(2, 0, 5);
        x.master(5, 0, 5);
        int[] keen = {0, 1, 2, 3, 4, 5};
        int[] want = {0, 0, -1, -1, -2, -2};
        for (int i = 0; i < keen.length; i++) {
            x.image();
            Due.house(x, "keen " + keen[i] + " k<9");
            is("LADY by -" + keen[i], x.of(0, 15), want[i]);
            is("ROSE by -" + keen[i], x.of(1, 15), want[i]);
            x.undo();
        }
        BellsBelow y = new BellsBelow();
        y.master(2, 0, 5);
        int[] over = {0, 0, 1, 1};
        for (int n = 0; n < over.length; n++) {
            Due.house(y, "slow " + n + " k<9");
            is("LADY by " + n, y.of(0, 15), over[n]);
        }
    }

    static void p03_COST_of_a_PEER_by_v_only_below_its_own_FLOOR() {
        int[] kinds = {3, 6};
        for (int kind : kinds) {
            BellsBelow x = new BellsBelow();
            x.master(kind, 9, 5);
            is("one less", x.of(0, 14), 2 + 9);
            is("its own", x.of(0, 15), 0);
            is("one more", x.of(0, 16), 2);
        }
    }

    static void p03_COST_of_an_EARL_20_more_by_odd_MINUTES() {
        BellsBelow x = new BellsBelow();
        x.master(4, 9, 0);
        x.master(1, 9, 0);
        int[] want = {0, 20, 0, 20};
        for (int n = 0; n < want.length; n++) {
            is("EARL in MINUTE " + n, x.of(0, 10), want[n]);
            is("DUKE in MINUTE " + n, x.of(1, 10), 0);
            x.pass(1);
        }
        Stage.passedTo(x, 9998);
        is("EARL in MINUTE 9998", x.of(0, 10), 0);
        x.pass(1);
        is("EARL in MINUTE 9999", x.of(0, 10), 20);
    }

    static void p03_COST_by_CAME_of_a_DUKE_and_an_EARL_alone() {
        for (int kind = 0; kind < 7; kind++) {
            BellsBelow x = new BellsBelow();
            x.master(kind, 0, 0);
            Due.house(x, "rest 0");
            for (int came = 1; came <= 4; came++) {
                x.ring(0);
                x.pass(1);
            }
            is("CAME of KIND " + kind, x.of(0, 6), 4);
            is("COST of KIND " + kind, x.of(0, 10), kind == 1 || kind == 4 ? 4 : 0);
        }
    }

    static void p03_COST_of_a_TOLD_one_by_MINUTE_modulo_4() {
        BellsBelow x = new BellsBelow();
        x.master(6, 0, 0);
        for (int part = 0; part < 4; part++) {
            x.row(0, part, 9 - part);
        }
        int[] want = {9, 8, 7, 6, 9, 8};
        for (int n = 0; n < want.length; n++) {
            is("in MINUTE " + n, x.of(0, 10), want[n]);
            x.pass(1);
        }
        Stage.passedTo(x, 9999);
        is("in MINUTE 9999", x.of(0, 10), 6);
    }

    static void p03_COST_by_the_letters_at_their_ends() {
        BellsBelow x = new BellsBelow();
        for (int p = 0; p < 6; p++) {
            x.master(p == 5 ? 6 : 0, p == 0 ? 0 : 9, p == 5 ? 9 : 0);
        }
        Due.house(x, "slow 1 p<1;slow 2 k>5;slow 4 v<1;slow 8 f>8;slow 16 a<1;slow 32 m=0");
        is("p 0, v 0, f 0, a 0", x.of(0, 10), 1 + 4 + 16 + 32);
        is("p 0, v 0, f 9, a 9", x.of(0, 19), 18 + 1 + 4 + 8 + 32);
        is("p 1, v 9, f 8, a 8", x.of(1, 18), 16 + 32);
        is("p 5, k 6, f 9, a 0", x.of(5, 19), 2 + 8 + 16 + 32);
        is("p 4, k 0, f 9, a 9", x.of(4, 19), 18 + 8 + 32);
    }

    static void p03_COST_by_MINUTE_modulo_10() {
        BellsBelow x = new BellsBelow();
        x.master(0, 0, 0);
        Due.house(x, "slow 5 m>8;slow 50 m<1");
        is("in MINUTE 0", x.of(0, 10), 50);
        x.pass(8);
        is("in MINUTE 8", x.of(0, 10), 0);
        x.pass(1);
        is("in MINUTE 9", x.of(0, 10), 5);
        x.pass(1);
        is("in MINUTE 10", x.of(0, 10), 50);
        Stage.passedTo(x, 9999);
        is("in MINUTE 9999", x.of(0, 10), 5);
    }

    static void p03_COST_by_less_like_and_more_at_the_number() {
        BellsBelow x = new BellsBelow();
        x.master(0, 5, 0);
        Due.house(x, "slow 1 v<4;slow 2 v<5;slow 4 v<6;slow 8 v=4;slow 16 v=5;slow 32 v=6");
        is("less, like", x.of(0, 10), 4 + 16);
        Due.house(x, "slow 1 v>4;slow 2 v>5;slow 4 v>6;slow 8 v<99;slow 16 v=99;slow 32 v>99");
        is("more, 99", x.of(0, 10), 1 + 8);
        Due.house(x, "slow 1 v=05;slow 2 v=50;slow 4 v=0;slow 8 v>00");
        is("of two digits", x.of(0, 10), 1 + 8);
    }

    static void p03_COST_by_the_last_letter_relation_and_number() {
        BellsBelow x = Stage.masters(0);
        Due.house(x, "slow 1 p=0&m>99;slow 2 p=0|m>99;slow 4 m>99;slow 8 p=0&!m>99");
        is("m>99", x.of(0, 10), 2 + 8);
        Due.house(x, "slow 1 m<0;slow 2 m>0;slow 4 m<99;slow 8 p<0;slow 16 p>99;slow 32 p<99");
        is("m and p, 0 and 99", x.of(0, 10), 4 + 32);
    }

    // ---- promise 4: set

    static void p04_NONE_no_such_MASTER() {
        for (int p : outside(0, 3)) {
            same("set(" + p + ", 0, 0)", Stage::some, x -> x.set(p, 0, 0), NONE);
            same("set(" + p + ", 1, 0)", Stage::some, x -> x.set(p, 1, 0), NONE);
        }
    }

    static void p04_NONE_what_outside_0_to_1() {
        for (int what : outside(0, 1)) {
            same("set(0, " + what + ", 0)", Stage::some, x -> x.set(0, what, 0), NONE);
        }
    }

    static void p04_BAD_FLOOR_outside_0_to_9() {
        for (int n : outside(0, 9)) {
            same("set(0, 0, " + n + ")", Stage::some, x -> x.set(0, 0, n), BAD);
        }
    }

    static void p04_BAD_RESTS_outside_0_to_99() {
        for (int n : outside(0, 99)) {
            same("set(0, 1, " + n + ")", Stage::some, x -> x.set(0, 1, n), BAD);
        }
    }

    static void p04_NONE_ahead_of_BAD() {
        same("set(4, 0, 10)", Stage::some, x -> x.set(4, 0, 10), NONE);
        same("set(-1, 1, 100)", Stage::some, x -> x.set(-1, 1, 100), NONE);
        same("set(0, 2, 100)", Stage::some, x -> x.set(0, 2, 100), NONE);
        same("set(0, -1, -1)", Stage::some, x -> x.set(0, -1, -1), NONE);
    }

    static void p04_FLOOR_0_and_9_fit() {
        BellsBelow x = Stage.masters(0, 0);
        is("set(1, 0, 9)", x.set(1, 0, 9), 1);
        is("set(1, 0, 0)", x.set(1, 0, 0), 9);
        is("FLOOR", x.of(1, 2), 0);
        is("FLOOR of the other", x.of(0, 2), 0);
    }

    static void p04_RESTS_0_and_99_fit() {
        BellsBelow x = Stage.masters(0, 0);
        is("set(1, 1, 99)", x.set(1, 1, 99), 0);
        is("RESTS", x.of(1, 4), 99);
        is("set(1, 1, 0)", x.set(1, 1, 0), 99);
        is("RESTS then", x.of(1, 4), 0);
        is("RESTS of the other", x.of(0, 4), 0);
    }

    static void p04_RESTS_above_9_is_no_FLOOR_above_9() {
        BellsBelow x = Stage.masters(0);
        is("set(0, 1, 10)", x.set(0, 1, 10), 0);
        is("set(0, 0, 10)", x.set(0, 0, 10), BAD);
    }

    static void p04_what_it_is_already() {
        BellsBelow x = Stage.masters(0);
        is("set(0, 0, 0)", x.set(0, 0, 0), 0);
        is("set(0, 1, 0)", x.set(0, 1, 0), 0);
        is("FREE", x.of(0, 7), 1);
    }

    // ---- promise 5: away

    static void p05_NONE_no_such_MASTER() {
        for (int p : outside(0, 3)) {
            same("away(" + p + ", true)", Stage::some, x -> x.away(p, true), NONE);
            same("away(" + p + ", false)", Stage::some, x -> x.away(p, false), NONE);
        }
    }

    static void p05_what_it_is_already() {
        BellsBelow x = Stage.masters(0, 0);
        is("not AWAY, and not", x.away(1, false), 0);
        is("not AWAY", x.away(1, true), 0);
        is("AWAY, and AWAY", x.away(1, true), 1);
        is("AWAY", x.of(1, 5), 1);
        is("the other", x.of(0, 5), 0);
        is("AWAY, then not", x.away(1, false), 1);
        is("not AWAY then", x.of(1, 5), 0);
    }

    static void p05_its_GOAL_stays() {
        BellsBelow x = Stage.masters(0);
        x.ring(9);
        x.pass(1);
        x.away(0, true);
        is("GOAL", x.of(0, 3), 9);
        x.pass(60);
        is("GOAL, late", x.of(0, 3), 9);
        is("FLOOR, late", x.of(0, 2), 1);
        x.away(0, false);
        x.pass(1);
        is("FLOOR, then", x.of(0, 2), 2);
    }

    // ---- promise 6: ring

    static void p06_NONE_no_such_FLOOR() {
        for (int floor : outside(0, 9)) {
            same("ring(" + floor + ")", Stage::some, x -> x.ring(floor), NONE);
        }
    }

    static void p06_FLOOR_0_and_9() {
        BellsBelow x = new BellsBelow();
        is("ring(0)", x.ring(0), 0);
        is("RUNG", x.told(2), 1);
        is("ring(9)", x.ring(9), 9);
        is("RUNG then", x.told(2), 513);
    }

    static void p06_all_ten_are_RUNG() {
        BellsBelow x = new BellsBelow();
        for (int f = 0; f < 10; f++) {
            is("ring(" + f + ")", x.ring(f), f);
        }
        is("RUNG", x.told(2), 1023);
    }

    static void p06_what_is_RUNG_already() {
        same("ring(9) once more", () -> {
            BellsBelow y = Stage.some();
            y.ring(9);
            return y;
        }, x -> x.ring(9), 9);
    }

    static void p06_RUNG_by_crossed_WIRES() {
        BellsBelow x = new BellsBelow();
        x.cross(0, 9);
        is("ring(0)", x.ring(0), 9);
        is("RUNG", x.told(2), 512);
        is("ring(9)", x.ring(9), 0);
        is("RUNG then", x.told(2), 513);
    }

    // ---- promise 7: cross

    static void p07_NONE_the_one_outside_0_to_9() {
        for (int one : outside(0, 9)) {
            same("cross(" + one + ", 3)", Stage::some, x -> x.cross(one, 3), NONE);
        }
    }

    static void p07_NONE_the_other_outside_0_to_9() {
        for (int other : outside(0, 9)) {
            same("cross(3, " + other + ")", Stage::some, x -> x.cross(3, other), NONE);
        }
    }

    static void p07_BAD_one_is_both() {
        for (int f = 0; f < 10; f++) {
            int both = f;
            same("cross(" + f + ", " + f + ")", Stage::some, x -> x.cross(both, both), BAD);
        }
    }

    static void p07_NONE_ahead_of_BAD() {
        for (int both : outside(0, 9)) {
            same("cross(" + both + ", " + both + ")", Stage::some, x -> x.cross(both, both), NONE);
        }
    }

    static void p07_FLOORS_0_and_9() {
        BellsBelow x = new BellsBelow();
        is("cross(0, 9)", x.cross(0, 9), 9);
        is("WIRE of 0", x.told(10), 9);
        is("WIRE of 9", x.told(19), 0);
        is("cross(9, 0)", x.cross(9, 0), 9);
        is("WIRE of 0, back", x.told(10), 0);
    }

    static void p07_no_two_WIRES_lead_to_one() {
        BellsBelow x = new BellsBelow();
        int all = 0;
        for (int f = 0; f < 9; f++) {
            x.cross(f, f + 1);
            x.cross(f * 3 % 10, (f * 7 + 1) % 10);
        }
        for (int f = 0; f < 10; f++) {
            all |= 1 << x.told(10 + f);
        }
        is("FLOORS to which WIRES lead", all, 1023);
    }

    static void p07_what_is_RUNG_stays_so() {
        BellsBelow x = new BellsBelow();
        x.ring(2);
        x.cross(2, 3);
        is("RUNG", x.told(2), 4);
    }

    // ---- promise 8: row

    static void p08_NONE_no_such_MASTER() {
        for (int p : outside(0, 3)) {
            same("row(" + p + ", 0, 0)", Stage::some, x -> x.row(p, 0, 0), NONE);
        }
    }

    static void p08_NONE_part_outside_0_to_3() {
        for (int part : outside(0, 3)) {
            same("row(3, " + part + ", 7)", Stage::some, x -> x.row(3, part, 7), NONE);
        }
    }

    static void p08_BAD_n_outside_0_to_9() {
        for (int n : outside(0, 9)) {
            same("row(3, 1, " + n + ")", Stage::some, x -> x.row(3, 1, n), BAD);
        }
    }

    static void p08_STATE_another_KIND() {
        for (int kind = 0; kind < 6; kind++) {
            int other = kind;
            same("row of KIND " + kind, () -> Stage.masters(other, 6), x -> x.row(0, 0, 7),
                STATE);
        }
    }

    static void p08_NONE_ahead_of_BAD() {
        same("row(4, 0, 10)", Stage::some, x -> x.row(4, 0, 10), NONE);
        same("row(-1, 0, -1)", Stage::some, x -> x.row(-1, 0, -1), NONE);
        same("row(3, 4, 10)", Stage::some, x -> x.row(3, 4, 10), NONE);
        same("row(3, -1, -1)", Stage::some, x -> x.row(3, -1, -1), NONE);
    }

    static void p08_NONE_ahead_of_STATE() {
        same("row(0, 4, 0)", Stage::some, x -> x.row(0, 4, 0), NONE);
        same("row(0, -1, 0)", Stage::some, x -> x.row(0, -1, 0), NONE);
    }

    static void p08_BAD_ahead_of_STATE() {
        same("row(0, 0, 10)", Stage::some, x -> x.row(0, 0, 10), BAD);
        same("row(0, 0, -1)", Stage::some, x -> x.row(0, 0, -1), BAD);
    }

    static void p08_the_least_and_the_most_fit() {
        BellsBelow x = Stage.masters(6, 6);
        is("row(1, 0, 9)", x.row(1, 0, 9), 0);
        is("row(1, 3, 9)", x.row(1, 3, 9), 0);
        is("row(1, 3, 0)", x.row(1, 3, 0), 9);
        is("row(1, 0, 0)", x.row(1, 0, 0), 9);
        is("row(1, 3, 0) again", x.row(1, 3, 0), 0);
        is("row(0, 3, 0), the other's", x.row(0, 3, 0), 0);
    }

    static void p08_each_TOLD_one_has_a_ROW_of_its_own() {
        BellsBelow x = Stage.masters(6, 6, 6, 6, 6, 6);
        for (int p = 0; p < 6; p++) {
            for (int part = 0; part < 4; part++) {
                is("row of " + p + " at " + part, x.row(p, part, (p * 4 + part) % 10), 0);
            }
        }
        for (int n = 0; n < 4; n++) {
            for (int p = 0; p < 6; p++) {
                is("COST of " + p + " in MINUTE " + n, x.of(p, 10 + p), (p * 4 + n) % 10);
                is("row of " + p + " at " + n + " was", x.row(p, n, 9), (p * 4 + n) % 10);
            }
            x.pass(1);
        }
    }
}
