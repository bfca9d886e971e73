/** Boundary cases of promises 16 to 20: what is SEEN, FROM where, CAN be, ODDS, MEANS. */
public final class EdgeSeenTest extends Edge {
    public static void main(String[] args) {
        run(EdgeSeenTest.class);
    }

    // ---- promise 16: see

    static void p16_NONE_no_such_MASTER() {
        for (int p : outsideButOne(0, 3)) {
            same("see(" + p + ", 0, 0)", Stage::some, x -> x.see(p, 0, 0), NONE);
        }
        is("see(0, 0, 0) of none", new BellsBelow().see(0, 0, 0), NONE);
    }

    static void p16_NONE_floor_outside_0_to_9() {
        for (int floor : outside(0, 9)) {
            same("see(0, 0, " + floor + ")", Stage::some, x -> x.see(0, 0, floor), NONE);
        }
    }

    static void p16_BAD_n_outside_0_to_20() {
        for (int n : outside(0, 20)) {
            same("see(0, " + n + ", 0)", Stage::some, x -> x.see(0, n, 0), BAD);
        }
    }

    static void p16_NONE_ahead_of_BAD() {
        same("see(4, 21, 0)", Stage::some, x -> x.see(4, 21, 0), NONE);
        same("see(-2, -1, 0)", Stage::some, x -> x.see(-2, -1, 0), NONE);
        same("see(0, 21, 10)", Stage::some, x -> x.see(0, 21, 10), NONE);
        same("see(0, -1, -1)", Stage::some, x -> x.see(0, -1, -1), NONE);
    }

    static void p16_NONE_ahead_of_FULL() {
        same("a sixth, master 6", Stage::full, x -> x.see(6, 0, 0), NONE);
        same("a sixth, master -2", Stage::full, x -> x.see(-2, 0, 0), NONE);
        same("a sixth, floor 10", Stage::full, x -> x.see(0, 0, 10), NONE);
        same("a sixth, floor -1", Stage::full, x -> x.see(0, 0, -1), NONE);
    }

    static void p16_BAD_ahead_of_FULL() {
        same("a sixth, n 21", Stage::full, x -> x.see(0, 21, 0), BAD);
        same("a sixth, n -1", Stage::full, x -> x.see(0, -1, 0), BAD);
    }

    static void p16_FULL_the_sixth() {
        same("a sixth", Stage::full, x -> x.see(0, 0, 0), FULL);
        same("a sixth like one of the five", Stage::full, x -> x.see(0, 0, 2), FULL);
    }

    static void p16_the_fifth_still_fits() {
        BellsBelow x = Stage.masters(0);
        for (int i = 1; i <= 5; i++) {
            is("see as " + i, x.see(0, 0, 0), i);
            is("count(2)", x.count(2), i);
        }
        is("the sixth", x.see(0, 0, 1), FULL);
        is("count(2) then", x.count(2), 5);
        is("it is not looked at", x.from(0), 1);
    }

    static void p16_the_fifth_counts() {
        BellsBelow x = Stage.masters(0);
        for (int i = 1; i <= 4; i++) {
            x.see(0, 0, 0);
        }
        is("FROM by four", x.from(0), 1);
        x.see(0, 0, 1);
        is("FROM by five", x.from(0), 0);
    }

    static void p16_the_least_and_the_most_fit() {
        BellsBelow x = Stage.masters(0, 0, 0, 0, 0, 0);
        is("see(0, 0, 0)", x.see(0, 0, 0), 1);
        is("see(5, 20, 9)", x.see(5, 20, 9), 2);
    }

    static void p16_master_1_below_0_empties_whatever_the_rest_is() {
        int[] numbers = {LEAST, -1, 0, 21, MOST};
        for (int n : numbers) {
            for (int floor : numbers) {
                BellsBelow x = Stage.full();
                is("see(-1, " + n + ", " + floor + ")", x.see(-1, n, floor), 0);
                is("count(2)", x.count(2), 0);
                is("FROM", x.from(0), 1023);
                is("see(0, 0, 0) then", x.see(0, 0, 0), 1);
            }
        }
    }

    static void p16_master_1_below_0_of_none_at_all() {
        same("see(-1, 0, 0)", Stage::fresh, x -> x.see(-1, 0, 0), 0);
    }

    // ---- promise 17: from

    static void p17_NONE_no_such_MASTER() {
        for (int p : outside(0, 3)) {
            same("from(" + p + ")", Stage::some, x -> x.from(p), NONE);
        }
        is("from(0) of none", new BellsBelow().from(0), NONE);
        is("from(6) of six", Stage.full().from(6), NONE);
    }

    static void p17_all_FLOORS_if_nothing_is_SEEN() {
        is("FROM", Stage.masters(0).from(0), 1023);
    }

    static void p17_no_FLOOR() {
        BellsBelow x = Stage.masters(0);
        x.see(0, 0, 0);
        x.see(0, 0, 9);
        is("FROM", x.from(0), 0);
    }

    static void p17_FLOORS_0_and_9() {
        BellsBelow x = Stage.masters(0);
        x.see(0, 0, 0);
        is("FROM 0", x.from(0), 1);
        x.see(-1, 0, 0);
        x.see(0, 20, 9);
        is("FROM 9", x.from(0), 512);
    }

    static void p17_n_0_is_now() {
        BellsBelow x = Stage.masters(0);
        x.ring(9);
        x.see(0, 0, 3);
        is("FROM, it goes in the next MINUTE", x.from(0), 8);
    }

    static void p17_n_20_is_behind_20_MINUTES() {
        BellsBelow x = Stage.masters(0);
        x.set(0, 1, 19);
        x.ring(9);
        x.see(0, 20, 5);
        // It goes in the twentieth.
        is("FROM, RESTS 19", x.from(0), 1 << 4);
        x.set(0, 1, 20);
        is("FROM, RESTS 20", x.from(0), 1 << 5);
        x.set(0, 1, 18);
        is("FROM, RESTS 18", x.from(0), 1 << 3);
    }

    static void p17_several_in_one_MINUTE() {
        BellsBelow x = Stage.masters(0, 0);
        x.see(0, 7, 4);
        x.see(1, 7, 1);
        is("FROM of the first", x.from(0), 1 << 4);
        is("FROM of the second, the first being on 0", x.from(1), 0);
        x.set(0, 0, 4);
        is("FROM of the second, the first being on 4", x.from(1), 1 << 1);
    }

    static void p17_one_AWAY() {
        BellsBelow x = Stage.masters(0);
        x.ring(9);
        x.away(0, true);
        x.see(0, 20, 6);
        is("FROM", x.from(0), 1 << 6);
    }

    static void p17_one_with_a_GOAL_goes_on_to_that() {
        BellsBelow x = Stage.masters(0);
        x.ring(9);
        x.pass(1);
        // One who has just come stands there, but 9 is the GOAL of the first.
        x.master(0, 0, 9);
        x.see(0, 2, 5);
        is("FROM", x.from(0), 1 << 3);
    }

    static void p17_beyond_MINUTE_9999() {
        BellsBelow x = Stage.passedTo(Stage.masters(0), 9999);
        x.ring(9);
        x.see(0, 3, 3);
        is("FROM", x.from(0), 1);
    }

    static void p17_what_is_asked_changes_nothing() {
        for (int p = 0; p < 4; p++) {
            int one = p;
            int due = Stage.some().from(p);
            same("from(" + p + ")", Stage::some, x -> x.from(one), due);
        }
    }

    // ---- promise 18: can

    static void p18_NONE_no_such_MASTER() {
        for (int p : outside(0, 3)) {
            same("can(" + p + ", 0)", Stage::some, x -> x.can(p, 0), NONE);
            same("can(" + p + ", 1)", Stage::some, x -> x.can(p, 1), NONE);
        }
        is("can(0, 0) of none", new BellsBelow().can(0, 0), NONE);
    }

    static void p18_NONE_what_outside_0_to_1() {
        for (int what : outside(0, 1)) {
            same("can(0, " + what + ")", Stage::some, x -> x.can(0, what), NONE);
        }
    }

    static void p18_all_ten_if_nothing_is_SEEN() {
        BellsBelow x = Stage.masters(0);
        is("how many", x.can(0, 0), 10);
        is("the least", x.can(0, 1), 0);
    }

    static void p18_none_is_5_below_0() {
        BellsBelow x = Stage.masters(0);
        x.see(0, 0, 1);
        is("how many", x.can(0, 0), 0);
        is("the least", x.can(0, 1), NOT);
    }

    /** One who goes to FLOOR 5 instead of the other if its v is one of those told. */
    private static void can(String test, int many, int least) {
        BellsBelow x = new BellsBelow();
        x.master(0, 4, 3);
        x.master(0, 4, 6);
        Due.house(x, "keen 9 p=0&" + test);
        x.ring(5);
        x.see(0, 2, 5);
        is("how many by " + test, x.can(0, 0), many);
        is("the least by " + test, x.can(0, 1), least);
    }

    static void p18_v_0_and_9_alone() {
        can("v=0", 1, 0);
        can("v=9", 1, 9);
        can("v>8", 1, 9);
        can("v<1", 1, 0);
        can("v>0", 9, 1);
        can("v<9", 9, 0);
        can("v=10", 0, NOT);
        can("v<10", 10, 0);
    }

    private static void allTen(String who, BellsBelow x) {
        is("how many, " + who, x.can(0, 0), 10);
        is("the least, " + who, x.can(0, 1), 0);
    }

    static void p18_one_with_a_GOAL_goes_on_to_that() {
        BellsBelow x = Stage.masters(0);
        x.ring(9);
        x.pass(1);
        x.master(0, 0, 9);
        x.see(0, 2, 3);
        allTen("with a GOAL", x);
    }

    static void p18_one_AWAY_stays() {
        BellsBelow x = Stage.masters(0);
        x.ring(9);
        x.away(0, true);
        x.see(0, 20, 0);
        allTen("AWAY", x);
    }

    static void p18_one_who_RESTS_does_so() {
        BellsBelow x = Stage.masters(0);
        x.ring(9);
        x.set(0, 1, 5);
        x.see(0, 5, 0);
        x.see(0, 6, 1);
        allTen("RESTS", x);
    }

    static void p18_what_is_asked_changes_nothing() {
        for (int p = 0; p < 4; p++) {
            int one = p;
            int many = Stage.some().can(p, 0);
            int least = Stage.some().can(p, 1);
            same("can(" + p + ", 0)", Stage::some, x -> x.can(one, 0), many);
            same("can(" + p + ", 1)", Stage::some, x -> x.can(one, 1), least);
        }
    }

    // ---- promise 19: odds

    static void p19_NO_no_such_MASTER() {
        for (int p : outside(0, 3)) {
            same("odds(" + p + ", 0)", Stage::some, x -> x.odds(p, 0), NO);
            same("odds(" + p + ", 1)", Stage::some, x -> x.odds(p, 1), NO);
        }
        is("odds(0, 0) of none", new BellsBelow().odds(0, 0), NO);
        is("odds(0, 1) of none", new BellsBelow().odds(0, 1), NO);
    }

    static void p19_NO_part_outside_0_to_1() {
        for (int part : outside(0, 1)) {
            same("odds(0, " + part + ")", Stage::some, x -> x.odds(0, part), NO);
        }
    }

    private static void odds(BellsBelow x, int p, long above, long below) {
        is("above, of " + p, x.odds(p, 0), above);
        is("below, of " + p, x.odds(p, 1), below);
    }

    static void p19_never_is_0_by_1() {
        BellsBelow x = Stage.masters(0);
        x.away(0, true);
        odds(x, 0, 0, 1);
        x.away(0, false);
        x.set(0, 1, 1);
        odds(x, 0, 0, 1);
    }

    static void p19_always_is_1_by_1() {
        BellsBelow x = Stage.masters(0);
        odds(x, 0, 1, 1);
        x.ring(9);
        x.pass(1);
        odds(x, 0, 1, 1);
        x.away(0, true);
        odds(x, 0, 1, 1);
    }

    static void p19_lowest_terms_of_each_tenth() {
        long[] above = {0, 1, 1, 3, 2, 1, 3, 7, 4, 9, 1};
        long[] below = {1, 10, 5, 10, 5, 2, 5, 10, 5, 10, 1};
        for (int tenths = 0; tenths <= 10; tenths++) {
            BellsBelow x = new BellsBelow();
            x.master(0, 0, 0);
            x.master(0, 0, 0);
            // The second goes for the FLOORS below that number, the first for the others.
            Due.house(x, "keen 50 p=1&f<" + tenths);
            odds(x, 1, above[tenths], below[tenths]);
            odds(x, 0, above[10 - tenths], below[10 - tenths]);
        }
    }

    static void p19_a_bell_that_is_RUNG_already_rings_for_no_more() {
        BellsBelow x = Stage.masters(0, 0);
        x.ring(0);
        odds(x, 0, 1, 1);
        odds(x, 1, 9, 10);
    }

    static void p19_all_ten_are_RUNG() {
        BellsBelow x = Stage.masters(0, 0, 0, 0, 0, 0);
        for (int f = 0; f < 10; f++) {
            x.ring(f);
        }
        for (int p = 0; p < 6; p++) {
            odds(x, p, 1, 1);
        }
    }

    static void p19_what_is_asked_changes_nothing() {
        for (int p = 0; p < 4; p++) {
            int one = p;
            long above = Stage.some().odds(p, 0);
            long below = Stage.some().odds(p, 1);
            same("odds(" + p + ", 0)", Stage::some, x -> x.odds(one, 0), above);
            same("odds(" + p + ", 1)", Stage::some, x -> x.odds(one, 1), below);
        }
    }

    // ---- promise 20: mean

    static void p20_NO_n_outside_0_to_60() {
        for (int n : outside(0, 60)) {
            same("mean(" + n + ", 0)", Stage::some, x -> x.mean(n, 0), NO);
            same("mean(" + n + ", 1)", Stage::some, x -> x.mean(n, 1), NO);
        }
    }

    static void p20_NO_part_outside_0_to_1() {
        for (int part : outside(0, 1)) {
            same("mean(0, " + part + ")", Stage::some, x -> x.mean(0, part), NO);
        }
    }

    static void p20_NO_there_are_no_MASTERS() {
        same("mean(0, 0)", Stage::fresh, x -> x.mean(0, 0), NO);
        same("mean(60, 1)", Stage::fresh, x -> x.mean(60, 1), NO);
    }

    private static void mean(BellsBelow x, int n, long above, long below) {
        is("above, on " + n, x.mean(n, 0), above);
        is("below, on " + n, x.mean(n, 1), below);
    }

    static void p20_none_CAME_is_0_by_1() {
        for (int many = 1; many <= 6; many++) {
            mean(Stage.masters(new int[many]), 60, 0, 1);
        }
    }

    static void p20_lowest_terms_of_six() {
        long[] above = {0, 1, 1, 1, 2, 5, 1};
        long[] below = {1, 6, 3, 2, 3, 6, 1};
        BellsBelow x = Stage.masters(0, 0, 0, 0, 0, 0);
        for (int came = 0; came <= 6; came++) {
            mean(x, 1, above[came], below[came]);
            x.ring(came);
        }
    }

    static void p20_more_than_1() {
        BellsBelow x = Stage.masters(0, 0);
        x.ring(0);
        x.ring(1);
        x.pass(3);
        x.ring(0);
        mean(x, 0, 1, 1);
        mean(x, 1, 3, 2);
        x.ring(1);
        mean(x, 1, 2, 1);
    }

    static void p20_n_0_and_60() {
        BellsBelow x = Stage.masters(0);
        x.set(0, 1, 59);
        x.ring(0);
        mean(x, 0, 0, 1);
        mean(x, 59, 0, 1);
        mean(x, 60, 1, 1);
        x.set(0, 1, 60);
        mean(x, 60, 0, 1);
    }

    static void p20_one_AWAY_is_one_of_them() {
        BellsBelow x = Stage.masters(0, 0);
        x.away(1, true);
        x.ring(0);
        mean(x, 1, 1, 2);
    }

    static void p20_one_AWAY_who_CAME_counts() {
        BellsBelow x = Stage.masters(0, 0);
        x.ring(0);
        x.pass(1);
        x.away(0, true);
        mean(x, 0, 1, 2);
        mean(x, 60, 1, 2);
    }

    static void p20_beyond_MINUTE_9999() {
        BellsBelow x = Stage.passedTo(Stage.masters(0), 9999);
        x.ring(9);
        mean(x, 8, 0, 1);
        mean(x, 9, 1, 1);
    }

    static void p20_what_is_asked_changes_nothing() {
        long above = Stage.some().mean(60, 0);
        long below = Stage.some().mean(60, 1);
        same("mean(60, 0)", Stage::some, x -> x.mean(60, 0), above);
        same("mean(60, 1)", Stage::some, x -> x.mean(60, 1), below);
    }
}
