/** Boundary cases of promises 21 to 24: PLANS and BOOKS told by hand. */
public final class EdgePlansTest extends Edge {
    public static void main(String[] args) {
        run(EdgePlansTest.class);
    }

    // ---- promise 21: plan

    static void p21_NONE_what_outside_0_to_3() {
        for (int what : outsideButOne(0, 3)) {
            same("plan(" + what + ", 0)", Stage::some, x -> x.plan(what, 0), NONE);
        }
    }

    static void p21_NONE_a_bell_of_no_such_FLOOR() {
        for (int n : outside(0, 9)) {
            same("plan(1, " + n + ")", Stage::some, x -> x.plan(1, n), NONE);
        }
    }

    static void p21_NONE_no_such_MASTER_is_AWAY_or_not() {
        for (int n : outside(0, 3)) {
            same("plan(2, " + n + ")", Stage::some, x -> x.plan(2, n), NONE);
            same("plan(3, " + n + ")", Stage::some, x -> x.plan(3, n), NONE);
        }
        is("plan(2, 0) of none", new BellsBelow().plan(2, 0), NONE);
        is("plan(3, 0) of none", new BellsBelow().plan(3, 0), NONE);
    }

    static void p21_a_MINUTE_whatever_n_is() {
        int[] numbers = {LEAST, -1, 0, 6, 10, MOST};
        BellsBelow x = new BellsBelow();
        for (int i = 0; i < numbers.length; i++) {
            is("plan(0, " + numbers[i] + ")", x.plan(0, numbers[i]), i + 1);
        }
        x.ring(0);
        is("WAITED behind all six", x.ends(0), 6);
    }

    static void p21_the_least_and_the_most_fit() {
        BellsBelow x = Stage.masters(0, 0, 0, 0, 0, 0);
        is("plan(1, 0)", x.plan(1, 0), 1);
        is("plan(1, 9)", x.plan(1, 9), 2);
        is("plan(2, 0)", x.plan(2, 0), 3);
        is("plan(2, 5)", x.plan(2, 5), 4);
        is("plan(3, 0)", x.plan(3, 0), 5);
        is("plan(3, 5)", x.plan(3, 5), 6);
        is("RUNG", x.ends(1), 513);
    }

    static void p21_the_tenth_still_fits_and_counts() {
        BellsBelow x = new BellsBelow();
        for (int i = 1; i <= 9; i++) {
            is("plan as " + i, x.plan(1, i), i);
        }
        is("RUNG behind nine", x.ends(1), 1022);
        is("the tenth", x.plan(1, 0), 10);
        is("RUNG behind ten", x.ends(1), 1023);
        is("count(3)", x.count(3), 10);
        is("the eleventh", x.plan(0, 0), FULL);
        is("WAITED", x.ends(0), 0);
    }

    static void p21_FULL_the_eleventh() {
        same("plan(0, 0)", Stage::full, x -> x.plan(0, 0), FULL);
        same("plan(1, 9)", Stage::full, x -> x.plan(1, 9), FULL);
        same("plan(2, 5)", Stage::full, x -> x.plan(2, 5), FULL);
        same("plan(3, 5)", Stage::full, x -> x.plan(3, 5), FULL);
    }

    static void p21_NONE_ahead_of_FULL() {
        same("plan(4, 0)", Stage::full, x -> x.plan(4, 0), NONE);
        same("plan(-2, 0)", Stage::full, x -> x.plan(-2, 0), NONE);
        same("plan(1, 10)", Stage::full, x -> x.plan(1, 10), NONE);
        same("plan(1, -1)", Stage::full, x -> x.plan(1, -1), NONE);
        same("plan(2, 6)", Stage::full, x -> x.plan(2, 6), NONE);
        same("plan(3, -1)", Stage::full, x -> x.plan(3, -1), NONE);
    }

    static void p21_what_1_below_0_empties_whatever_the_rest_is() {
        int[] numbers = {LEAST, -1, 0, 10, MOST};
        for (int n : numbers) {
            BellsBelow x = Stage.full();
            is("plan(-1, " + n + ")", x.plan(-1, n), 0);
            is("count(3)", x.count(3), 0);
            is("RUNG behind none", x.ends(1), x.told(2));
            is("plan(0, 0) then", x.plan(0, 0), 1);
        }
    }

    static void p21_what_1_below_0_of_none_at_all() {
        same("plan(-1, 0)", Stage::fresh, x -> x.plan(-1, 0), 0);
    }

    // ---- promise 22: ends

    static void p22_NONE_what_outside_0_to_1() {
        for (int what : outside(0, 1)) {
            same("ends(" + what + ")", Stage::some, x -> x.ends(what), NONE);
        }
    }

    static void p22_an_empty_PLAN_ends_as_all_is() {
        BellsBelow x = Stage.masters(0);
        x.ring(9);
        x.pass(3);
        is("WAITED", x.ends(0), 3);
        is("RUNG", x.ends(1), 512);
    }

    static void p22_the_rows_go_in_their_order() {
        BellsBelow x = new BellsBelow();
        x.plan(0, 0);
        x.plan(1, 4);
        is("a MINUTE, then a bell", x.ends(0), 0);
        x.plan(-1, 0);
        x.plan(1, 4);
        x.plan(0, 0);
        is("a bell, then a MINUTE", x.ends(0), 1);
    }

    static void p22_one_who_is_AWAY_already_or_not() {
        BellsBelow x = Stage.masters(0);
        x.away(0, true);
        x.plan(2, 0);
        x.plan(1, 0);
        x.plan(0, 0);
        is("AWAY still: RUNG", x.ends(1), 1);
        x.plan(3, 0);
        x.plan(3, 0);
        x.plan(0, 0);
        is("not AWAY: RUNG", x.ends(1), 0);
        is("AWAY as it was", x.of(0, 5), 1);
    }

    static void p22_by_the_WIRE_as_it_is_when_asked() {
        BellsBelow x = new BellsBelow();
        x.plan(1, 0);
        is("RUNG", x.ends(1), 1);
        x.cross(0, 9);
        is("RUNG, crossed", x.ends(1), 512);
    }

    static void p22_ten_MINUTES_beyond_9999() {
        BellsBelow x = Stage.passedTo(new BellsBelow(), 9999);
        x.ring(5);
        for (int i = 0; i < 10; i++) {
            x.plan(0, 0);
        }
        is("WAITED", x.ends(0), 10);
        is("RUNG", x.ends(1), 32);
        is("MINUTE", x.told(0), 9999);
    }

    static void p22_what_is_asked_changes_nothing() {
        int waited = Stage.full().ends(0);
        int rung = Stage.full().ends(1);
        same("ends(0)", Stage::full, x -> x.ends(0), waited);
        same("ends(1)", Stage::full, x -> x.ends(1), rung);
    }

    // ---- promise 23: book

    static void p23_NONE_no_such_MASTER() {
        for (int p : outsideButOne(0, 3)) {
            same("book(" + p + ", 0)", Stage::some, x -> x.book(p, 0), NONE);
        }
        is("book(0, 0) of none", new BellsBelow().book(0, 0), NONE);
    }

    static void p23_NONE_floor_outside_0_to_9() {
        for (int floor : outside(0, 9)) {
            same("book(0, " + floor + ")", Stage::some, x -> x.book(0, floor), NONE);
        }
    }

    static void p23_the_least_and_the_most_fit() {
        BellsBelow x = Stage.masters(0, 0, 0, 0, 0, 0);
        is("book(0, 0)", x.book(0, 0), 1);
        is("book(5, 9)", x.book(5, 9), 2);
    }

    static void p23_the_eighth_still_fits_and_is_looked_at() {
        BellsBelow x = Stage.masters(0);
        for (int i = 1; i <= 7; i++) {
            is("book as " + i, x.book(0, 0), i);
        }
        is("looked() at seven", x.looked(), NOT);
        is("the eighth", x.book(0, 1), 8);
        is("looked() at eight", x.looked(), 7);
        is("count(4)", x.count(4), 8);
        is("the ninth", x.book(0, 0), FULL);
        is("count(4) then", x.count(4), 8);
    }

    static void p23_FULL_the_ninth() {
        same("book(0, 0)", Stage::full, x -> x.book(0, 0), FULL);
        same("book(5, 9)", Stage::full, x -> x.book(5, 9), FULL);
    }

    static void p23_NONE_ahead_of_FULL() {
        same("book(6, 0)", Stage::full, x -> x.book(6, 0), NONE);
        same("book(-2, 0)", Stage::full, x -> x.book(-2, 0), NONE);
        same("book(0, 10)", Stage::full, x -> x.book(0, 10), NONE);
        same("book(0, -1)", Stage::full, x -> x.book(0, -1), NONE);
    }

    static void p23_master_1_below_0_empties_whatever_the_rest_is() {
        int[] numbers = {LEAST, -1, 0, 10, MOST};
        for (int floor : numbers) {
            BellsBelow x = Stage.full();
            is("book(-1, " + floor + ")", x.book(-1, floor), 0);
            is("count(4)", x.count(4), 0);
            is("looked()", x.looked(), NOT);
            is("book(0, 0) then", x.book(0, 0), 1);
        }
    }

    static void p23_master_1_below_0_of_none_at_all() {
        same("book(-1, 0)", Stage::fresh, x -> x.book(-1, 0), 0);
    }

    // ---- promise 24: looked

    static void p24_none_is_5_below_0() {
        is("without rows", new BellsBelow().looked(), NOT);
        BellsBelow x = Stage.masters(0, 0);
        x.book(0, 0);
        x.book(1, 1);
        is("all is so", x.looked(), NOT);
    }

    static void p24_the_first_row_is_0_and_the_last_7() {
        BellsBelow x = Stage.masters(0, 0);
        for (int i = 0; i < 7; i++) {
            x.book(0, 0);
        }
        x.book(1, 1);
        x.set(1, 0, 2);
        is("the last alone", x.looked(), 7);
        x.set(0, 0, 2);
        is("the first of all", x.looked(), 0);
    }

    static void p24_FLOORS_0_and_9() {
        BellsBelow x = Stage.masters(0);
        x.book(0, 9);
        is("0 is not 9", x.looked(), 0);
        x.set(0, 0, 9);
        is("9 is", x.looked(), NOT);
        x.set(0, 0, 8);
        is("8 is not", x.looked(), 0);
    }

    static void p24_as_it_is_now_not_as_it_was() {
        BellsBelow x = Stage.masters(0);
        x.book(0, 0);
        x.ring(9);
        x.pass(1);
        is("looked()", x.looked(), 0);
    }

    static void p24_by_its_FLOOR_not_its_GOAL() {
        BellsBelow x = Stage.masters(0);
        x.ring(9);
        x.pass(1);
        x.book(0, 1);
        is("its FLOOR", x.looked(), NOT);
        x.book(0, 9);
        is("its GOAL", x.looked(), 1);
    }

    static void p24_what_is_asked_changes_nothing() {
        same("looked()", Stage::full, BellsBelow::looked, Stage.full().looked());
    }
}
