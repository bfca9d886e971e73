/** Boundary cases of promises 25 and 32 to 35: WIRES that are JUDGED, TAPES. */
public final class EdgeTapesTest extends Edge {
    private static final int BYTES = 0, SHORTS = 1, INTS = 2, LONGS = 3, BOOLEANS = 4;

    public static void main(String[] args) {
        run(EdgeTapesTest.class);
    }

    /** TAPE 0 to 4 of that many items of sort 0 to 4; 5 holds nothing. */
    private static BellsBelow tapes(int n) {
        BellsBelow x = new BellsBelow();
        for (int sort = 0; sort < 5; sort++) {
            x.tape(sort, sort, n);
        }
        return x;
    }

    /** TAPE 0 of ten bytes and 1 of four, 2 of ten ints; items 1, 2, 3 and so on. */
    private static BellsBelow numbered() {
        BellsBelow x = new BellsBelow();
        x.tape(0, BYTES, 10);
        x.tape(1, BYTES, 4);
        x.tape(2, INTS, 10);
        for (int i = 0; i < 10; i++) {
            x.item(0, i, i + 1);
            x.item(2, i, i + 1);
        }
        return x;
    }

    private static void holds(BellsBelow x, int tape, int... items) {
        for (int i = 0; i < items.length; i++) {
            is("item " + i + " of " + tape, x.read(tape, i), items[i]);
        }
        is("behind the last of " + tape, x.read(tape, items.length), NO);
    }

    // ---- promise 25: judge

    private static BellsBelow wires(int from, int many) {
        BellsBelow x = new BellsBelow();
        x.tape(0, BYTES, from + many);
        for (int f = 0; f < many; f++) {
            x.item(0, from + f, f);
        }
        return x;
    }

    static void p25_NONE_no_such_TAPE() {
        for (int tape : outside(0, 5)) {
            same("judge(" + tape + ", 0)", Stage::some, x -> x.judge(tape, 0), NONE);
            same("judge(" + tape + ", -1)", Stage::some, x -> x.judge(tape, -1), NONE);
        }
    }

    static void p25_CAST_no_row_of_bytes() {
        for (int sort = 1; sort < 5; sort++) {
            int tape = sort;
            same("judge of sort " + sort, () -> tapes(10), x -> x.judge(tape, 0), CAST);
            same("judge of sort " + sort + ", none", () -> tapes(0), x -> x.judge(tape, 0), CAST);
        }
    }

    static void p25_CAST_whatever_the_place() {
        int[] places = {LEAST, -1, 10, 11, MOST};
        for (int i : places) {
            is("judge(2, " + i + ")", tapes(10).judge(2, i), CAST);
        }
    }

    static void p25_100_the_TAPE_holds_nothing() {
        int[] places = {LEAST, -1, 0, 60, MOST};
        for (int i : places) {
            for (int tape = 0; tape < 6; tape++) {
                is("judge(" + tape + ", " + i + ")", new BellsBelow().judge(tape, i), 100);
            }
        }
        BellsBelow x = wires(0, 10);
        x.tape(0, -1, 0);
        is("judge(0, 0) of a row that was", x.judge(0, 0), 100);
    }

    static void p25_100_a_row_of_none() {
        is("judge(0, 0)", tapes(0).judge(0, 0), 100);
    }

    static void p25_100_the_place_is_below_0() {
        int[] places = {-1, -2, -10, LEAST, LEAST + 9};
        for (int i : places) {
            is("judge(0, " + i + ")", wires(0, 10).judge(0, i), 100);
        }
    }

    static void p25_100_the_place_is_the_end_or_beyond() {
        int[] places = {10, 11, 60, MOST, MOST - 1, MOST - 9};
        for (int i : places) {
            is("judge(0, " + i + ")", wires(0, 10).judge(0, i), 100);
        }
    }

    static void p25_100_and_how_many_were_looked_at() {
        for (int many = 0; many < 10; many++) {
            is("judge(0, 0) of " + many, wires(0, many).judge(0, 0), 100 + many);
            is("judge(0, 3) of " + many, wires(3, many).judge(0, 3), 100 + many);
        }
    }

    static void p25_none_leads_elsewhere_in_ten() {
        is("of ten", wires(0, 10).judge(0, 0), NOT);
        is("the last ten of sixty", wires(50, 10).judge(0, 50), NOT);
        BellsBelow x = new BellsBelow();
        x.tape(0, BYTES, 11);
        for (int f = 0; f < 10; f++) {
            x.item(0, f, f);
        }
        x.item(0, 10, 77);
        is("an eleventh is not looked at", x.judge(0, 0), NOT);
    }

    static void p25_by_where_a_WIRE_leads_not_by_which_leads_there() {
        BellsBelow x = new BellsBelow();
        // FLOORS 0, 5 and 7 in one loop: it is told once along and once against it.
        x.cross(0, 5);
        x.cross(5, 7);
        int[] along = {5, 1, 2, 3, 4, 7, 6, 0, 8, 9};
        int[] against = {7, 1, 2, 3, 4, 0, 6, 5, 8, 9};
        x.tape(0, BYTES, 10);
        x.tape(1, BYTES, 10);
        for (int f = 0; f < 10; f++) {
            is("the WIRE of " + f, x.told(10 + f), along[f]);
            x.item(0, f, along[f]);
            x.item(1, f, against[f]);
        }
        is("along", x.judge(0, 0), NOT);
        is("against", x.judge(1, 0), 0);
    }

    static void p25_the_first_that_leads_elsewhere_0_and_9() {
        BellsBelow x = wires(0, 10);
        x.item(0, 9, 8);
        is("the last", x.judge(0, 0), 9);
        x.item(0, 0, 1);
        is("the first", x.judge(0, 0), 0);
    }

    static void p25_one_leads_elsewhere_ahead_of_the_end() {
        BellsBelow x = wires(0, 5);
        x.item(0, 4, 5);
        is("the last there is", x.judge(0, 0), 4);
    }

    static void p25_items_that_are_no_FLOORS() {
        int[] items = {-1, 10, 127, -128, 256 + 1};
        for (int item : items) {
            BellsBelow x = wires(0, 10);
            x.item(0, 0, item);
            is("item " + item, x.judge(0, 0), 0);
        }
        BellsBelow x = wires(0, 10);
        x.item(0, 9, 256 + 9);
        is("256 and 9 is 9 as a byte", x.judge(0, 0), NOT);
    }

    static void p25_what_is_asked_changes_nothing() {
        same("judge(0, 3)", Stage::some, x -> x.judge(0, 3), 0);
        same("judge(0, 12)", Stage::some, x -> x.judge(0, 12), 100);
        same("judge(5, 0)", Stage::some, x -> x.judge(5, 0), 100);
    }

    // ---- promise 32: tape

    static void p32_NONE_no_such_TAPE() {
        for (int tape : outside(0, 5)) {
            same("tape(" + tape + ", 0, 3)", Stage::some, x -> x.tape(tape, 0, 3), NONE);
            same("tape(" + tape + ", -1, 0)", Stage::some, x -> x.tape(tape, -1, 0), NONE);
        }
    }

    static void p32_BAD_sort_outside_0_to_4() {
        for (int sort : outsideButOne(0, 4)) {
            same("tape(0, " + sort + ", 3)", Stage::some, x -> x.tape(0, sort, 3), BAD);
        }
    }

    static void p32_BAD_n_above_60() {
        int[] above = {61, 62, 316, MOST};
        for (int n : above) {
            for (int sort = 0; sort < 5; sort++) {
                int one = sort;
                same("tape(0, " + sort + ", " + n + ")", Stage::some, x -> x.tape(0, one, n), BAD);
            }
        }
    }

    static void p32_SIZE_n_below_0() {
        int[] below = {-1, -2, -256, LEAST};
        for (int n : below) {
            for (int sort = 0; sort < 5; sort++) {
                int one = sort;
                same("tape(0, " + sort + ", " + n + ")", Stage::some, x -> x.tape(0, one, n), SIZE);
            }
        }
    }

    static void p32_NONE_ahead_of_BAD_and_SIZE() {
        same("tape(6, 5, 0)", Stage::some, x -> x.tape(6, 5, 0), NONE);
        same("tape(6, 0, 61)", Stage::some, x -> x.tape(6, 0, 61), NONE);
        same("tape(-1, 0, -1)", Stage::some, x -> x.tape(-1, 0, -1), NONE);
    }

    static void p32_BAD_ahead_of_SIZE() {
        same("tape(0, 5, -1)", Stage::some, x -> x.tape(0, 5, -1), BAD);
        same("tape(0, -2, -1)", Stage::some, x -> x.tape(0, -2, -1), BAD);
    }

    static void p32_60_items_still_fit() {
        for (int sort = 0; sort < 5; sort++) {
            BellsBelow x = new BellsBelow();
            is("tape(5, " + sort + ", 60)", x.tape(5, sort, 60), 1);
            is("the last", x.read(5, 59), 0);
            is("behind the last", x.read(5, 60), NO);
            is("item(5, 59, 1)", x.item(5, 59, 1), 1);
            is("the last then", x.read(5, 59), 1);
        }
    }

    static void p32_0_items_are_a_row() {
        for (int sort = 0; sort < 5; sort++) {
            BellsBelow x = new BellsBelow();
            is("tape(0, " + sort + ", 0)", x.tape(0, sort, 0), 1);
            is("item(0, 0, 1)", x.item(0, 0, 1), PLACE);
            is("read(0, 0)", x.read(0, 0), NO);
            is("shift of none", x.shift(0, 0, 0, 0, 0), 0);
        }
    }

    static void p32_nothing_whatever_n_is() {
        int[] numbers = {LEAST, -1, 0, 60, 61, MOST};
        for (int n : numbers) {
            BellsBelow x = tapes(3);
            is("tape(0, -1, " + n + ")", x.tape(0, -1, n), 1);
            is("item(0, 0, 1)", x.item(0, 0, 1), NOTHING);
            is("read(0, 0)", x.read(0, 0), NO);
        }
        same("tape(5, -1, 0) that holds nothing", () -> tapes(3), x -> x.tape(5, -1, 0), 1);
    }

    static void p32_all_0_again() {
        BellsBelow x = new BellsBelow();
        x.tape(0, LONGS, 60);
        for (int i = 0; i < 60; i++) {
            x.item(0, i, -1);
        }
        for (int n = 0; n <= 60; n += 20) {
            is("tape(0, 3, " + n + ")", x.tape(0, LONGS, n), 1);
            for (int i = 0; i < n; i++) {
                is("item " + i, x.read(0, i), 0);
            }
        }
    }

    static void p32_shorter_then_longer_is_all_0() {
        BellsBelow x = numbered();
        x.tape(0, BYTES, 2);
        x.tape(0, BYTES, 4);
        holds(x, 0, 0, 0, 0, 0);
    }

    static void p32_the_other_TAPES_stay() {
        BellsBelow x = numbered();
        x.tape(1, BOOLEANS, 60);
        holds(x, 0, 1, 2, 3, 4, 5, 6, 7, 8, 9, 10);
        holds(x, 2, 1, 2, 3, 4, 5, 6, 7, 8, 9, 10);
    }

    // ---- promise 33: item

    static void p33_NONE_no_such_TAPE() {
        for (int tape : outside(0, 5)) {
            same("item(" + tape + ", 0, 1)", Stage::some, x -> x.item(tape, 0, 1), NONE);
        }
    }

    static void p33_NOTHING_is_there() {
        for (int tape = 3; tape < 6; tape++) {
            int one = tape;
            same("item(" + tape + ", 0, 1)", Stage::some, x -> x.item(one, 0, 1), NOTHING);
        }
    }

    static void p33_PLACE_outside_the_row() {
        for (int i : outside(0, 11)) {
            same("item(0, " + i + ", 1)", Stage::some, x -> x.item(0, i, 1), PLACE);
        }
        same("item(0, 0, 1) of none", () -> tapes(0), x -> x.item(0, 0, 1), PLACE);
    }

    static void p33_NONE_ahead_of_NOTHING_and_PLACE() {
        same("item(6, -1, 1)", Stage::some, x -> x.item(6, -1, 1), NONE);
        same("item(-1, 60, 1)", Stage::fresh, x -> x.item(-1, 60, 1), NONE);
    }

    static void p33_NOTHING_ahead_of_PLACE() {
        same("item(5, -1, 1)", Stage::some, x -> x.item(5, -1, 1), NOTHING);
        same("item(5, 60, 1)", Stage::some, x -> x.item(5, 60, 1), NOTHING);
    }

    static void p33_the_first_and_the_last_place() {
        BellsBelow x = tapes(3);
        is("item(0, 0, 7)", x.item(0, 0, 7), 1);
        is("item(0, 2, 9)", x.item(0, 2, 9), 1);
        holds(x, 0, 7, 0, 9);
    }

    private static void fits(int sort, long v, long want) {
        BellsBelow x = tapes(3);
        is("item(" + sort + ", 1, " + v + ")", x.item(sort, 1, v), 1);
        is("read of " + v + " as sort " + sort, x.read(sort, 1), want);
        is("the one ahead", x.read(sort, 0), 0);
        is("the one behind", x.read(sort, 2), 0);
    }

    static void p33_the_lowest_8_bits() {
        fits(BYTES, 127, 127);
        fits(BYTES, 128, -128);
        fits(BYTES, -128, -128);
        fits(BYTES, -129, 127);
        fits(BYTES, 255, -1);
        fits(BYTES, 256, 0);
        fits(BYTES, Long.MAX_VALUE, -1);
        fits(BYTES, Long.MIN_VALUE, 0);
    }

    static void p33_the_lowest_16_bits() {
        fits(SHORTS, 32767, 32767);
        fits(SHORTS, 32768, -32768);
        fits(SHORTS, -32768, -32768);
        fits(SHORTS, -32769, 32767);
        fits(SHORTS, 65535, -1);
        fits(SHORTS, 65536, 0);
        fits(SHORTS, Long.MAX_VALUE, -1);
        fits(SHORTS, Long.MIN_VALUE, 0);
    }

    static void p33_the_lowest_32_bits() {
        fits(INTS, MOST, MOST);
        fits(INTS, MOST + 1L, LEAST);
        fits(INTS, LEAST, LEAST);
        fits(INTS, LEAST - 1L, MOST);
        fits(INTS, 0xFFFFFFFFL, -1);
        fits(INTS, 0x100000000L, 0);
        fits(INTS, Long.MAX_VALUE, -1);
        fits(INTS, Long.MIN_VALUE, 0);
    }

    static void p33_all_64_bits() {
        fits(LONGS, Long.MAX_VALUE, Long.MAX_VALUE);
        fits(LONGS, Long.MIN_VALUE, Long.MIN_VALUE);
        fits(LONGS, Long.MIN_VALUE + 1, Long.MIN_VALUE + 1);
        fits(LONGS, -1, -1);
    }

    static void p33_booleans_whether_it_is_not_0() {
        long[] not0 = {1, -1, 2, 256, 65536, 0x100000000L, Long.MAX_VALUE, Long.MIN_VALUE};
        for (long v : not0) {
            fits(BOOLEANS, v, 1);
        }
        fits(BOOLEANS, 0, 0);
        BellsBelow x = tapes(1);
        x.item(BOOLEANS, 0, 5);
        x.item(BOOLEANS, 0, 0);
        is("0 again", x.read(BOOLEANS, 0), 0);
    }

    // ---- promise 34: read

    static void p34_NO_no_such_TAPE() {
        for (int tape : outside(0, 5)) {
            same("read(" + tape + ", 0)", Stage::some, x -> x.read(tape, 0), NO);
        }
    }

    static void p34_NO_nothing_there() {
        for (int tape = 0; tape < 6; tape++) {
            is("read(" + tape + ", 0)", new BellsBelow().read(tape, 0), NO);
        }
    }

    static void p34_NO_no_such_place() {
        for (int sort = 0; sort < 5; sort++) {
            for (int i : outside(0, 2)) {
                is("read(" + sort + ", " + i + ")", tapes(3).read(sort, i), NO);
            }
            is("read(" + sort + ", 0) of none", tapes(0).read(sort, 0), NO);
        }
    }

    static void p34_the_first_and_the_last_place() {
        BellsBelow x = numbered();
        is("read(0, 0)", x.read(0, 0), 1);
        is("read(0, 9)", x.read(0, 9), 10);
    }

    static void p34_what_is_asked_changes_nothing() {
        same("read(0, 3)", Stage::some, x -> x.read(0, 3), 4);
        same("read(1, 2)", Stage::some, x -> x.read(1, 2), -9);
    }

    // ---- promise 35: shift

    static void p35_NONE_no_such_TAPE() {
        for (int tape : outside(0, 5)) {
            same("shift(" + tape + ", 0, 0, 0, 1)", EdgeTapesTest::numbered,
                x -> x.shift(tape, 0, 0, 0, 1), NONE);
            same("shift(0, 0, " + tape + ", 0, 1)", EdgeTapesTest::numbered,
                x -> x.shift(0, 0, tape, 0, 1), NONE);
            same("shift(" + tape + ", 0, " + tape + ", 0, 1)", EdgeTapesTest::numbered,
                x -> x.shift(tape, 0, tape, 0, 1), NONE);
        }
    }

    static void p35_NOTHING_is_there() {
        same("shift(5, 0, 0, 0, 1)", EdgeTapesTest::numbered, x -> x.shift(5, 0, 0, 0, 1), NOTHING);
        same("shift(0, 0, 5, 0, 1)", EdgeTapesTest::numbered, x -> x.shift(0, 0, 5, 0, 1), NOTHING);
        same("shift(5, 0, 5, 0, 0)", EdgeTapesTest::numbered, x -> x.shift(5, 0, 5, 0, 0), NOTHING);
        same("shift(5, 0, 4, 0, 0)", EdgeTapesTest::numbered, x -> x.shift(5, 0, 4, 0, 0), NOTHING);
    }

    static void p35_CAST_of_unlike_sorts() {
        for (int one = 0; one < 5; one++) {
            for (int other = 0; other < 5; other++) {
                int due = one == other ? 3 : CAST;
                is("shift from sort " + one + " to " + other, tapes(3).shift(one, 0, other, 0, 3), due);
            }
        }
        same("shift(0, 0, 2, 0, 1)", EdgeTapesTest::numbered, x -> x.shift(0, 0, 2, 0, 1), CAST);
        same("shift(2, 0, 0, 0, 0)", EdgeTapesTest::numbered, x -> x.shift(2, 0, 0, 0, 0), CAST);
    }

    static void p35_PLACE_n_is_below_0() {
        int[] below = {-1, -2, -256, LEAST};
        for (int n : below) {
            same("shift(0, 5, 1, 2, " + n + ")", EdgeTapesTest::numbered,
                x -> x.shift(0, 5, 1, 2, n), PLACE);
        }
    }

    static void p35_PLACE_i_is_below_0() {
        int[] below = {-1, -2, -256, LEAST};
        for (int i : below) {
            same("shift(0, " + i + ", 1, 0, 1)", EdgeTapesTest::numbered,
                x -> x.shift(0, i, 1, 0, 1), PLACE);
            same("shift(0, " + i + ", 1, 0, 0)", EdgeTapesTest::numbered,
                x -> x.shift(0, i, 1, 0, 0), PLACE);
        }
    }

    static void p35_PLACE_j_is_below_0() {
        int[] below = {-1, -2, -256, LEAST};
        for (int j : below) {
            same("shift(0, 0, 1, " + j + ", 1)", EdgeTapesTest::numbered,
                x -> x.shift(0, 0, 1, j, 1), PLACE);
            same("shift(0, 0, 1, " + j + ", 0)", EdgeTapesTest::numbered,
                x -> x.shift(0, 0, 1, j, 0), PLACE);
        }
    }

    static void p35_PLACE_beyond_the_end_of_the_one() {
        same("shift(0, 9, 1, 0, 2)", EdgeTapesTest::numbered, x -> x.shift(0, 9, 1, 0, 2), PLACE);
        same("shift(0, 10, 1, 0, 1)", EdgeTapesTest::numbered, x -> x.shift(0, 10, 1, 0, 1), PLACE);
        same("shift(0, 11, 1, 0, 0)", EdgeTapesTest::numbered, x -> x.shift(0, 11, 1, 0, 0), PLACE);
        same("shift(1, 0, 0, 0, 5)", EdgeTapesTest::numbered, x -> x.shift(1, 0, 0, 0, 5), PLACE);
        same("shift(0, MOST, 1, 0, 0)", EdgeTapesTest::numbered,
            x -> x.shift(0, MOST, 1, 0, 0), PLACE);
    }

    static void p35_PLACE_beyond_the_end_of_the_other() {
        same("shift(0, 0, 1, 3, 2)", EdgeTapesTest::numbered, x -> x.shift(0, 0, 1, 3, 2), PLACE);
        same("shift(0, 0, 1, 4, 1)", EdgeTapesTest::numbered, x -> x.shift(0, 0, 1, 4, 1), PLACE);
        same("shift(0, 0, 1, 5, 0)", EdgeTapesTest::numbered, x -> x.shift(0, 0, 1, 5, 0), PLACE);
        same("shift(0, 0, 1, 0, 5)", EdgeTapesTest::numbered, x -> x.shift(0, 0, 1, 0, 5), PLACE);
        same("shift(0, 0, 1, MOST, 0)", EdgeTapesTest::numbered,
            x -> x.shift(0, 0, 1, MOST, 0), PLACE);
    }

    static void p35_PLACE_a_sum_that_wraps_around() {
        same("i and n", EdgeTapesTest::numbered, x -> x.shift(0, MOST, 0, 0, 1), PLACE);
        same("j and n", EdgeTapesTest::numbered, x -> x.shift(0, 0, 0, MOST, 1), PLACE);
        same("n and i", EdgeTapesTest::numbered, x -> x.shift(0, 1, 0, 0, MOST), PLACE);
        same("n and j", EdgeTapesTest::numbered, x -> x.shift(0, 0, 0, 1, MOST), PLACE);
        same("all", EdgeTapesTest::numbered, x -> x.shift(0, MOST, 0, MOST, MOST), PLACE);
        same("all below 0", EdgeTapesTest::numbered, x -> x.shift(0, LEAST, 0, LEAST, LEAST), PLACE);
        same("to 0", EdgeTapesTest::numbered, x -> x.shift(0, LEAST, 0, 0, LEAST), PLACE);
    }

    static void p35_NONE_ahead_of_all() {
        same("NOTHING", Stage::fresh, x -> x.shift(0, 0, 6, 0, 1), NONE);
        same("NOTHING there", Stage::fresh, x -> x.shift(-1, 0, 0, 0, 1), NONE);
        same("PLACE", EdgeTapesTest::numbered, x -> x.shift(0, -1, 6, -1, -1), NONE);
    }

    static void p35_NOTHING_ahead_of_CAST_and_PLACE() {
        same("PLACE", EdgeTapesTest::numbered, x -> x.shift(0, -1, 5, 0, 1), NOTHING);
        same("PLACE there", EdgeTapesTest::numbered, x -> x.shift(5, 0, 2, -1, 1), NOTHING);
        same("n", EdgeTapesTest::numbered, x -> x.shift(5, 0, 5, 0, -1), NOTHING);
    }

    static void p35_CAST_ahead_of_PLACE() {
        same("i", EdgeTapesTest::numbered, x -> x.shift(0, -1, 2, 0, 1), CAST);
        same("j", EdgeTapesTest::numbered, x -> x.shift(0, 0, 2, 11, 1), CAST);
        same("n", EdgeTapesTest::numbered, x -> x.shift(2, 0, 0, 0, -1), CAST);
    }

    static void p35_none_at_all() {
        same("shift(0, 0, 1, 0, 0)", EdgeTapesTest::numbered, x -> x.shift(0, 0, 1, 0, 0), 0);
        same("shift(0, 10, 1, 4, 0)", EdgeTapesTest::numbered, x -> x.shift(0, 10, 1, 4, 0), 0);
        is("of rows of none", tapes(0).shift(2, 0, 2, 0, 0), 0);
    }

    static void p35_up_to_either_s_end() {
        BellsBelow x = numbered();
        is("shift(0, 6, 1, 0, 4)", x.shift(0, 6, 1, 0, 4), 4);
        holds(x, 1, 7, 8, 9, 10);
        is("shift(0, 0, 1, 3, 1)", x.shift(0, 0, 1, 3, 1), 1);
        holds(x, 1, 7, 8, 9, 1);
        is("shift(1, 0, 0, 6, 4)", x.shift(1, 0, 0, 6, 4), 4);
        holds(x, 0, 1, 2, 3, 4, 5, 6, 7, 8, 9, 1);
    }

    static void p35_the_same_as_they_all_were_before() {
        BellsBelow x = numbered();
        is("up by one", x.shift(0, 0, 0, 1, 9), 9);
        holds(x, 0, 1, 1, 2, 3, 4, 5, 6, 7, 8, 9);
        BellsBelow y = numbered();
        is("down by one", y.shift(0, 1, 0, 0, 9), 9);
        holds(y, 0, 2, 3, 4, 5, 6, 7, 8, 9, 10, 10);
        same("onto itself", EdgeTapesTest::numbered, z -> z.shift(0, 0, 0, 0, 10), 10);
    }

    static void p35_60_items() {
        BellsBelow x = new BellsBelow();
        x.tape(0, LONGS, 60);
        x.tape(5, LONGS, 60);
        x.item(0, 0, Long.MIN_VALUE + 1);
        x.item(0, 59, Long.MAX_VALUE);
        is("shift(0, 0, 5, 0, 60)", x.shift(0, 0, 5, 0, 60), 60);
        is("the first", x.read(5, 0), Long.MIN_VALUE + 1);
        is("the last", x.read(5, 59), Long.MAX_VALUE);
        is("one more", x.shift(0, 0, 5, 0, 61), PLACE);
    }
}
