/** Boundary cases of promises 12 to 15: MINUTES that go, what will be, bells, how it is shared. */
public final class EdgeMinutesTest extends Edge {
    public static void main(String[] args) {
        run(EdgeMinutesTest.class);
    }

    private static void ring(BellsBelow x, int... floors) {
        for (int f : floors) {
            x.ring(f);
        }
    }

    /** FLOOR, GOAL, RESTS and CAME of one. */
    private static void stands(BellsBelow x, int p, int floor, int goal, int rests, int came) {
        String of = " of " + p + " in MINUTE " + x.told(0);
        is("FLOOR" + of, x.of(p, 2), floor);
        is("GOAL" + of, x.of(p, 3), goal);
        is("RESTS" + of, x.of(p, 4), rests);
        is("CAME" + of, x.of(p, 6), came);
    }

    // ---- promise 12: pass

    static void p12_BAD_n_outside_0_to_60() {
        for (int n : outside(0, 60)) {
            same("pass(" + n + ")", Stage::some, x -> x.pass(n), BAD);
        }
    }

    static void p12_n_0_changes_nothing() {
        same("pass(0)", Stage::some, x -> x.pass(0), 2);
        same("pass(0) in MINUTE 9999", Stage::late, x -> x.pass(0), 9999);
    }

    static void p12_n_60_goes() {
        BellsBelow x = new BellsBelow();
        is("pass(60)", x.pass(60), 60);
        is("pass(60) again", x.pass(60), 120);
    }

    static void p12_STATE_above_9999() {
        same("pass(1) in MINUTE 9999", Stage::late, x -> x.pass(1), STATE);
        same("pass(60) in MINUTE 9999", Stage::late, x -> x.pass(60), STATE);
        same("pass(41) in MINUTE 9959", () -> Stage.passedTo(Stage.masters(0), 9959),
            x -> x.pass(41), STATE);
        same("pass(60) in MINUTE 9940", () -> Stage.passedTo(Stage.masters(0), 9940),
            x -> x.pass(60), STATE);
    }

    static void p12_MINUTE_9999_still_goes() {
        BellsBelow x = Stage.passedTo(new BellsBelow(), 9939);
        is("pass(60) in MINUTE 9939", x.pass(60), 9999);
        BellsBelow y = Stage.passedTo(new BellsBelow(), 9998);
        is("pass(1) in MINUTE 9998", y.pass(1), 9999);
    }

    static void p12_BAD_ahead_of_STATE() {
        for (int n : outside(0, 60)) {
            same("pass(" + n + ") in MINUTE 9999", Stage::late, x -> x.pass(n), BAD);
        }
    }

    static void p12_undo_brings_back_MINUTES_that_may_go_then() {
        BellsBelow x = Stage.passedTo(new BellsBelow(), 9990);
        x.image();
        is("pass(9)", x.pass(9), 9999);
        is("pass(1)", x.pass(1), STATE);
        is("undo()", x.undo(), 0);
        is("pass(9) again", x.pass(9), 9999);
    }

    static void p12_without_MASTERS_all_stays_RUNG() {
        BellsBelow x = new BellsBelow();
        ring(x, 0, 9);
        x.pass(3);
        is("RUNG", x.told(2), 513);
        is("WAITED", x.told(3), 6);
    }

    static void p12_a_GOAL_if_nobody_is_FREE_there_is_none() {
        BellsBelow x = Stage.masters(0, 0, 0);
        x.away(0, true);
        x.set(1, 1, 2);
        x.away(2, true);
        x.set(2, 1, 5);
        ring(x, 4);
        x.pass(1);
        stands(x, 0, 0, NOT, 0, 0);
        stands(x, 1, 1, NOT, 1, 0);
        stands(x, 2, 2, NOT, 5, 0);
        is("RUNG", x.told(2), 16);
    }

    static void p12_a_GOAL_of_several_the_first() {
        BellsBelow x = new BellsBelow();
        x.master(0, 0, 7);
        x.master(0, 0, 3);
        x.master(0, 0, 3);
        ring(x, 5);
        x.pass(1);
        is("GOAL of the first, as near as the others", x.of(0, 3), 5);
        is("GOAL of the second", x.of(1, 3), NOT);
        is("GOAL of the third", x.of(2, 3), NOT);
    }

    static void p12_a_GOAL_by_a_COST_less_by_1() {
        BellsBelow x = new BellsBelow();
        x.master(0, 0, 2);
        x.master(0, 0, 2);
        Due.house(x, "keen 1 p=1");
        ring(x, 9);
        x.pass(1);
        is("GOAL of the first", x.of(0, 3), NOT);
        is("GOAL of the second", x.of(1, 3), 9);
    }

    static void p12_a_GOAL_by_a_COST_below_0() {
        BellsBelow x = new BellsBelow();
        x.master(0, 0, 5);
        x.master(5, 1, 5);
        ring(x, 5);
        x.pass(1);
        stands(x, 0, 5, NOT, 0, 0);
        stands(x, 1, 5, NOT, 2, 1);
    }

    static void p12_GOALS_come_FLOOR_by_FLOOR_from_0_on() {
        BellsBelow x = new BellsBelow();
        x.master(0, 0, 9);
        ring(x, 9, 0);
        x.pass(1);
        is("GOAL", x.of(0, 3), 0);
        is("FLOOR", x.of(0, 2), 8);
        is("RUNG", x.told(2), 513);
    }

    static void p12_more_FLOORS_than_FREE_ones() {
        BellsBelow x = Stage.masters(0, 0);
        ring(x, 7, 8, 9);
        x.pass(1);
        is("GOAL of the second", x.of(1, 3), 7);
        is("GOAL of the first", x.of(0, 3), 8);
        is("WAITED", x.told(3), 3);
    }

    static void p12_a_FLOOR_that_is_a_GOAL_is_nobody_else_s() {
        BellsBelow x = Stage.masters(0);
        ring(x, 9);
        x.pass(1);
        x.master(0, 0, 9);
        x.pass(1);
        is("GOAL of one who stands there", x.of(1, 3), NOT);
        is("CAME of it", x.of(1, 6), 0);
        is("RUNG", x.told(2), 512);
    }

    static void p12_a_GOAL_of_one_AWAY_is_nobody_else_s() {
        BellsBelow x = Stage.masters(0);
        ring(x, 9);
        x.pass(1);
        x.away(0, true);
        x.master(0, 0, 9);
        x.pass(5);
        stands(x, 0, 1, 9, 0, 0);
        stands(x, 1, 9, NOT, 0, 0);
    }

    static void p12_one_is_there_already() {
        BellsBelow x = new BellsBelow();
        x.master(0, 0, 9);
        ring(x, 9);
        x.pass(1);
        stands(x, 0, 9, NOT, 2, 1);
        is("WAITED", x.told(3), 0);
        is("RUNG", x.told(2), 0);
    }

    static void p12_one_a_FLOOR_APART_is_there_in_a_MINUTE() {
        BellsBelow x = new BellsBelow();
        x.master(0, 0, 8);
        x.master(0, 0, 1);
        ring(x, 9, 0);
        x.pass(1);
        stands(x, 0, 9, NOT, 2, 1);
        stands(x, 1, 0, NOT, 2, 1);
        is("WAITED", x.told(3), 0);
    }

    static void p12_one_two_FLOORS_APART_is_not() {
        BellsBelow x = new BellsBelow();
        x.master(0, 0, 7);
        x.master(0, 0, 2);
        ring(x, 9, 0);
        x.pass(1);
        stands(x, 0, 8, 9, 0, 0);
        stands(x, 1, 1, 0, 0, 0);
        is("WAITED", x.told(3), 2);
    }

    static void p12_RESTS_1_less_each_MINUTE_to_0() {
        BellsBelow x = Stage.masters(0);
        x.set(0, 1, 2);
        x.pass(1);
        is("RESTS", x.of(0, 4), 1);
        x.pass(1);
        is("RESTS then", x.of(0, 4), 0);
        x.pass(1);
        is("RESTS, none", x.of(0, 4), 0);
    }

    static void p12_RESTS_99() {
        BellsBelow x = Stage.masters(0);
        x.set(0, 1, 99);
        ring(x, 0);
        x.pass(60);
        is("RESTS", x.of(0, 4), 39);
        x.pass(39);
        is("RESTS then", x.of(0, 4), 0);
        is("RUNG", x.told(2), 1);
        x.pass(1);
        is("RUNG then", x.told(2), 0);
    }

    static void p12_RESTS_1_is_not_FREE_in_the_MINUTE_that_goes() {
        BellsBelow x = Stage.masters(0);
        x.set(0, 1, 1);
        ring(x, 0);
        x.pass(1);
        stands(x, 0, 0, NOT, 0, 0);
        x.pass(1);
        stands(x, 0, 0, NOT, 2, 1);
    }

    static void p12_RESTS_no_less_if_AWAY() {
        BellsBelow x = Stage.masters(0);
        x.set(0, 1, 5);
        x.away(0, true);
        x.pass(9);
        is("RESTS", x.of(0, 4), 5);
    }

    static void p12_RESTS_REST_no_less_in_the_MINUTE_it_comes() {
        BellsBelow x = Stage.masters(0);
        Due.house(x, "rest 1");
        ring(x, 0);
        x.pass(1);
        is("RESTS", x.of(0, 4), 1);
    }

    static void p12_REST_0_is_FREE_at_once() {
        BellsBelow x = Stage.masters(0);
        Due.house(x, "rest 0");
        ring(x, 0, 1);
        x.pass(1);
        stands(x, 0, 0, NOT, 0, 1);
        is("FREE", x.of(0, 7), 1);
        x.pass(1);
        stands(x, 0, 1, NOT, 0, 2);
    }

    static void p12_REST_99() {
        BellsBelow x = Stage.masters(0);
        Due.house(x, "rest 99");
        ring(x, 0);
        x.pass(1);
        is("RESTS", x.of(0, 4), 99);
    }

    static void p12_WAITED_by_what_is_RUNG_behind_all_who_came() {
        BellsBelow x = Stage.masters(0, 0);
        ring(x, 0, 1, 9);
        x.pass(1);
        is("WAITED", x.told(3), 1);
    }

    static void p12_two_come_in_one_MINUTE() {
        BellsBelow x = Stage.masters(0, 0);
        ring(x, 0, 1);
        x.pass(1);
        is("CAME of the first", x.of(0, 6), 1);
        is("CAME of the second", x.of(1, 6), 1);
        is("RUNG", x.told(2), 0);
    }

    static void p12_a_bell_rung_again_while_one_goes_is_one() {
        BellsBelow x = Stage.masters(0);
        ring(x, 2);
        x.pass(1);
        ring(x, 2);
        x.pass(1);
        stands(x, 0, 2, NOT, 2, 1);
        is("RUNG", x.told(2), 0);
    }

    static void p12_60_MINUTES_are_60_times_one() {
        BellsBelow x = Stage.some();
        BellsBelow y = Stage.some();
        x.pass(60);
        for (int i = 0; i < 60; i++) {
            y.pass(1);
        }
        isSo("all is alike", State.of(x).equals(State.of(y)));
    }

    // ---- promise 13: on

    static void p13_NONE_no_such_what() {
        int[] whats = {-1, 2, 9, 14, 19, 24, 30, 256, 266, LEAST, LEAST + 10, LEAST + 20, MOST};
        for (int what : whats) {
            same("on(0, " + what + ")", Stage::some, x -> x.on(0, what), NONE);
        }
    }

    static void p13_NONE_FLOOR_and_GOAL_of_no_such_MASTER() {
        for (int many = 0; many <= 6; many++) {
            BellsBelow x = Stage.masters(new int[many]);
            for (int p = 0; p < 7; p++) {
                is("on(0, " + (10 + p) + ") of " + many, x.on(0, 10 + p), p < many ? p : NONE);
                is("on(0, " + (20 + p) + ") of " + many, x.on(0, 20 + p), p < many ? NOT : NONE);
            }
        }
    }

    static void p13_BAD_n_outside_0_to_60() {
        int[] whats = {0, 1, 10, 13, 20, 23};
        for (int n : outside(0, 60)) {
            for (int what : whats) {
                same("on(" + n + ", " + what + ")", Stage::some, x -> x.on(n, what), BAD);
            }
        }
    }

    static void p13_NONE_ahead_of_BAD() {
        int[] whats = {-1, 2, 9, 14, 19, 24};
        for (int n : outside(0, 60)) {
            for (int what : whats) {
                is("on(" + n + ", " + what + ")", Stage.some().on(n, what), NONE);
            }
        }
    }

    static void p13_n_0_is_how_all_is() {
        BellsBelow x = Stage.some();
        is("RUNG", x.on(0, 0), x.told(2));
        is("WAITED", x.on(0, 1), x.told(3));
        for (int p = 0; p < 4; p++) {
            is("FLOOR of " + p, x.on(0, 10 + p), x.of(p, 2));
            is("GOAL of " + p, x.on(0, 20 + p), x.of(p, 3));
        }
    }

    static void p13_n_60_is_how_all_will_be() {
        int[] whats = {0, 1, 10, 11, 12, 13, 20, 21, 22, 23};
        for (int n = 0; n <= 60; n += 15) {
            BellsBelow x = Stage.some();
            BellsBelow y = Stage.some();
            y.pass(n);
            for (int what : whats) {
                int due = what == 0 ? y.told(2) : what == 1 ? y.told(3)
                    : what < 20 ? y.of(what - 10, 2) : y.of(what - 20, 3);
                is("on(" + n + ", " + what + ")", x.on(n, what), due);
            }
        }
    }

    static void p13_GOAL_none_is_5_below_0() {
        BellsBelow x = Stage.masters(0);
        ring(x, 2);
        is("GOAL on 0", x.on(0, 20), NOT);
        is("GOAL on 1", x.on(1, 20), 2);
        is("GOAL on 2", x.on(2, 20), NOT);
    }

    static void p13_one_AWAY_stays_with_its_GOAL() {
        BellsBelow x = Stage.masters(0);
        ring(x, 5);
        x.pass(1);
        x.away(0, true);
        is("FLOOR on 60", x.on(60, 10), 1);
        is("GOAL on 60", x.on(60, 20), 5);
        is("RUNG on 60", x.on(60, 0), 32);
        is("WAITED on 60", x.on(60, 1), 61);
    }

    static void p13_what_is_asked_changes_nothing() {
        int[] whats = {0, 1, 10, 23};
        for (int what : whats) {
            int due = Stage.some().on(60, what);
            same("on(60, " + what + ")", Stage::some, x -> x.on(60, what), due);
        }
    }

    /** Who goes by KIND, v, CAME, RESTS, WIRES and HOUSE goes so where it is asked, too. */
    static void p13_what_is_asked_goes_on_by_all_that_is() {
        for (int kind = 0; kind < 7; kind++) {
            for (int v = 0; v <= 9; v += 9) {
                BellsBelow x = new BellsBelow();
                BellsBelow y = new BellsBelow();
                prepares(x, kind, v);
                prepares(y, kind, v);
                y.pass(1);
                for (int p = 0; p < 2; p++) {
                    is("FLOOR of " + p + ", KIND " + kind, x.on(1, 10 + p), y.of(p, 2));
                    is("GOAL of " + p + ", KIND " + kind, x.on(1, 20 + p), y.of(p, 3));
                }
            }
        }
    }

    /** The first has come once; both then stand beside FLOOR 3, the first above it. */
    private static void prepares(BellsBelow x, int kind, int v) {
        x.master(kind, v, 5);
        x.row(0, 1, 9);
        Due.house(x, "rest 0");
        x.ring(5);
        x.pass(1);
        x.master(0, 0, 1);
        x.ring(3);
    }

    static void p13_who_goes_by_its_KIND() {
        // In MINUTE 1 the COST for FLOOR 3 of the second is 4; that of the first is, by its KIND,
        // 4; 4, CAME 1; 2; 4, v 9; 4, CAME 1, 20; 2, less v 9; 4, v 9, ROW 9.
        int[] who = {0, 1, 0, 1, 1, 0, 1};
        for (int kind = 0; kind < 7; kind++) {
            BellsBelow x = new BellsBelow();
            prepares(x, kind, 9);
            is("who, KIND " + kind, x.bell(3, 1), who[kind]);
            is("GOAL of the first on 1, KIND " + kind, x.on(1, 20), who[kind] == 0 ? 3 : NOT);
        }
    }

    static void p13_MINUTES_go_on_beyond_9999() {
        same("on(60, 1)", Stage::late, x -> x.on(60, 1), Stage.late().told(3));
        BellsBelow x = Stage.passedTo(Stage.masters(0), 9999);
        ring(x, 9);
        is("FLOOR on 1", x.on(1, 10), 1);
        is("FLOOR on 8", x.on(8, 10), 8);
        is("FLOOR on 60", x.on(60, 10), 9);
        is("RUNG on 8", x.on(8, 0), 512);
        is("RUNG on 9", x.on(9, 0), 0);
        is("WAITED on 60", x.on(60, 1), 8);
    }

    static void p13_MINUTE_beyond_9999_is_as_it_is_told_by_m() {
        BellsBelow x = Stage.passedTo(Stage.masters(0, 0), 9999);
        x.set(1, 0, 0);
        x.set(0, 1, 1);
        x.set(1, 1, 1);
        Due.house(x, "slow 9 p=0&m=0");
        ring(x, 0);
        // Both are FREE in MINUTE 10000, which modulo 10 is 0.
        is("GOAL of the first on 2", x.on(2, 10), 0);
        ring(x, 5);
        is("FLOOR of the first on 6", x.on(6, 10), 5);
        is("FLOOR of the second on 6", x.on(6, 11), 0);
    }

    // ---- promise 14: bell

    static void p14_NONE_no_such_FLOOR() {
        for (int floor : outside(0, 9)) {
            same("bell(" + floor + ", 0)", Stage::some, x -> x.bell(floor, 0), NONE);
            same("bell(" + floor + ", 1)", Stage::some, x -> x.bell(floor, 1), NONE);
        }
    }

    static void p14_NONE_what_outside_0_to_1() {
        for (int what : outside(0, 1)) {
            same("bell(0, " + what + ")", Stage::some, x -> x.bell(0, what), NONE);
        }
    }

    static void p14_nobody_is_5_below_0() {
        BellsBelow x = new BellsBelow();
        is("MINUTES without MASTERS", x.bell(9, 0), NOT);
        is("who, without MASTERS", x.bell(9, 1), NOT);
        x.master(0, 0, 9);
        x.away(0, true);
        is("MINUTES, all AWAY", x.bell(9, 0), NOT);
        is("who, all AWAY", x.bell(9, 1), NOT);
    }

    static void p14_the_first_MINUTE_is_the_fewest() {
        BellsBelow x = new BellsBelow();
        x.master(0, 0, 9);
        is("it stands there", x.bell(9, 0), 1);
        is("a FLOOR APART", x.bell(8, 0), 1);
        is("two FLOORS APART", x.bell(7, 0), 2);
        is("nine FLOORS APART", x.bell(0, 0), 9);
        is("who", x.bell(9, 1), 0);
    }

    static void p14_behind_60_still_behind_61_not() {
        BellsBelow x = Stage.masters(0);
        x.set(0, 1, 58);
        is("in the sixtieth, two FLOORS APART", x.bell(2, 0), 60);
        is("in the one behind", x.bell(3, 0), NOT);
        is("who goes in the next", x.bell(2, 1), NOT);
        x.set(0, 1, 59);
        is("in the sixtieth", x.bell(0, 0), 60);
        x.set(0, 1, 60);
        is("in the one behind then", x.bell(0, 0), NOT);
    }

    static void p14_by_the_WIRE() {
        BellsBelow x = Stage.masters(0);
        x.cross(0, 9);
        is("the bell of 0", x.bell(0, 0), 9);
        is("the bell of 9", x.bell(9, 0), 1);
    }

    static void p14_what_is_RUNG_already() {
        BellsBelow x = Stage.masters(0);
        ring(x, 3);
        is("MINUTES", x.bell(3, 0), 3);
        is("who", x.bell(3, 1), 0);
        x.pass(1);
        is("MINUTES, while it goes", x.bell(3, 0), 2);
        is("who, while it goes", x.bell(3, 1), 0);
    }

    static void p14_who_even_if_it_is_there_in_that_MINUTE() {
        BellsBelow x = Stage.masters(0, 0);
        is("who", x.bell(1, 1), 1);
        is("MINUTES", x.bell(1, 0), 1);
    }

    static void p14_who_even_if_AWAY_with_that_GOAL() {
        BellsBelow x = Stage.masters(0);
        ring(x, 5);
        x.pass(1);
        x.away(0, true);
        is("who", x.bell(5, 1), 0);
        is("MINUTES", x.bell(5, 0), NOT);
    }

    static void p14_who_not_in_a_MINUTE_behind() {
        BellsBelow x = Stage.masters(0);
        x.set(0, 1, 1);
        is("who", x.bell(0, 1), NOT);
        is("MINUTES", x.bell(0, 0), 2);
    }

    static void p14_what_is_asked_changes_nothing() {
        for (int f = 0; f < 10; f++) {
            int floor = f;
            int fewest = Stage.some().bell(f, 0);
            int who = Stage.some().bell(f, 1);
            same("bell(" + f + ", 0)", Stage::some, x -> x.bell(floor, 0), fewest);
            same("bell(" + f + ", 1)", Stage::some, x -> x.bell(floor, 1), who);
        }
    }

    static void p14_beyond_MINUTE_9999() {
        BellsBelow x = Stage.passedTo(Stage.masters(0), 9999);
        is("MINUTES", x.bell(9, 0), 9);
        is("who", x.bell(9, 1), 0);
    }

    // ---- promise 15: shared

    static void p15_NONE_no_such_what() {
        int[] whats = {-1, 2, 9, 20, 21, 256, 266, LEAST, LEAST + 1, LEAST + 10, MOST, MOST - 9};
        for (int what : whats) {
            same("shared(" + what + ")", Stage::some, x -> x.shared(what), NONE_LOW);
        }
    }

    /** How many, COST, and who goes to the FLOORS that are not nobody's. */
    private static void shared(BellsBelow x, int many, int cost, int... floorsAndWho) {
        is("how many", x.shared(0), many);
        is("COST", x.shared(1), cost);
        for (int f = 0; f < 10; f++) {
            int who = NOT;
            for (int i = 0; i < floorsAndWho.length; i += 2) {
                who = floorsAndWho[i] == f ? floorsAndWho[i + 1] : who;
            }
            is("who goes to " + f, x.shared(10 + f), who);
        }
    }

    static void p15_nothing_is_RUNG() {
        shared(new BellsBelow(), 0, 0);
        shared(Stage.masters(0, 1, 2), 0, 0);
    }

    static void p15_nobody_is_FREE() {
        BellsBelow x = new BellsBelow();
        ring(x, 0, 9);
        shared(x, 0, 0);
        x.master(0, 0, 0);
        x.away(0, true);
        x.master(0, 0, 0);
        x.set(1, 1, 1);
        shared(x, 0, 0);
    }

    static void p15_all_FLOORS_are_GOALS() {
        BellsBelow x = Stage.masters(0);
        ring(x, 9);
        x.pass(1);
        x.master(0, 0, 9);
        shared(x, 0, 0);
        x.away(0, true);
        shared(x, 0, 0);
    }

    static void p15_one_FLOOR_and_one_MASTER() {
        BellsBelow x = Stage.masters(0);
        ring(x, 0);
        shared(x, 1, 0, 0, 0);
        BellsBelow y = Stage.masters(0);
        ring(y, 9);
        shared(y, 1, 18, 9, 0);
    }

    static void p15_more_MASTERS_than_FLOORS() {
        BellsBelow x = Stage.masters(0, 0, 0, 0, 0, 0);
        ring(x, 9);
        shared(x, 1, 8, 9, 5);
    }

    static void p15_more_FLOORS_than_MASTERS() {
        BellsBelow x = Stage.masters(0);
        ring(x, 0, 1, 2, 3, 4, 5, 6, 7, 8, 9);
        shared(x, 1, 0, 0, 0);
        x.set(0, 0, 9);
        shared(x, 1, 0, 9, 0);
    }

    static void p15_all_FLOORS_and_all_MASTERS() {
        BellsBelow x = Stage.masters(0, 0, 0, 0, 0, 0);
        ring(x, 0, 1, 2, 3, 4, 5, 6, 7, 8, 9);
        shared(x, 6, 0, 0, 0, 1, 1, 2, 2, 3, 3, 4, 4, 5, 5);
    }

    static void p15_most_come_ahead_of_least_COST() {
        BellsBelow x = Stage.masters(0, 0);
        Due.house(x, "keen 99 f=1;slow 99 f=9");
        ring(x, 1, 9);
        // One for FLOOR 1 alone would cost -99.
        shared(x, 2, 99 + 16 - 97, 1, 0, 9, 1);
    }

    static void p15_most_even_at_the_highest_COST() {
        BellsBelow x = Stage.masters(0, 0);
        String clause = "slow 99 f=9";
        Due.house(x, clause + (";" + clause).repeat(7));
        ring(x, 0, 9);
        shared(x, 2, 8 * 99 + 16, 0, 0, 9, 1);
    }

    static void p15_COST_below_0() {
        BellsBelow x = Stage.masters(5, 5);
        ring(x, 0, 1);
        shared(x, 2, -9 - 8, 0, 0, 1, 1);
    }

    static void p15_of_several_the_first_by_FLOORS() {
        BellsBelow x = new BellsBelow();
        x.master(0, 0, 5);
        x.master(0, 0, 5);
        ring(x, 4, 6);
        shared(x, 2, 4, 4, 0, 6, 1);
        x.master(0, 0, 5);
        shared(x, 2, 4, 4, 0, 6, 1);
    }

    static void p15_of_several_none_comes_last() {
        BellsBelow x = new BellsBelow();
        x.master(0, 0, 5);
        ring(x, 4, 6);
        shared(x, 1, 2, 4, 0);
        BellsBelow y = new BellsBelow();
        y.master(0, 0, 9);
        y.master(0, 0, 0);
        ring(y, 4, 5);
        // 0 to 4 and 1 to 5 costs 20; 0 to 5 and 1 to 4 costs 16.
        shared(y, 2, 16, 4, 1, 5, 0);
    }

    static void p15_of_several_even_the_last_MASTER_comes_ahead_of_none() {
        BellsBelow x = new BellsBelow();
        for (int p = 0; p < 5; p++) {
            x.master(0, 0, 0);
            x.away(p, true);
        }
        x.master(0, 0, 4);
        ring(x, 2, 6);
        shared(x, 1, 4, 2, 5);
    }

    static void p15_one_who_is_AWAY_RESTS_or_has_a_GOAL_is_not_given() {
        BellsBelow x = Stage.masters(0, 0, 0, 0);
        ring(x, 9);
        x.pass(1);
        // The last one goes to 9.
        x.away(2, true);
        x.set(1, 1, 1);
        ring(x, 1, 2, 4);
        shared(x, 1, 2, 1, 0);
    }

    static void p15_asked_again_when_all_is_otherwise() {
        BellsBelow x = Stage.masters(0, 0);
        ring(x, 0, 1, 9);
        shared(x, 2, 0, 0, 0, 1, 1);
        x.away(1, true);
        shared(x, 1, 0, 0, 0);
        x.away(0, true);
        shared(x, 0, 0);
        x.away(1, false);
        shared(x, 1, 0, 1, 1);
        x.pass(1);
        // FLOOR 0 went to the second; the others are RUNG still.
        x.away(0, false);
        x.set(1, 1, 1);
        shared(x, 1, 2, 1, 0);
        x.set(0, 0, 9);
        shared(x, 1, 0, 9, 0);
    }

    static void p15_what_is_asked_changes_nothing() {
        int[] whats = {0, 1, 10, 12, 15, 19};
        for (int what : whats) {
            int due = Stage.some().shared(what);
            same("shared(" + what + ")", Stage::some, x -> x.shared(what), due);
        }
    }
}
