/** Boundary cases of promises 9 to 11: THE TEXT, HOUSES, what is told. */
public final class EdgeHousesTest extends Edge {
    public static void main(String[] args) {
        run(EdgeHousesTest.class);
    }

    /** A HOUSE of exactly 100 signs, of which the last 88 are 22 times |p=1. */
    private static String hundred() {
        return "slow 11 p=11" + "|p=1".repeat(22);
    }

    private static void house(String text) {
        is("house() of " + text, Due.house(new BellsBelow(), text), 0);
    }

    /** The FAULT is at the first sign behind what is right. */
    private static void fault(String right, String wrong) {
        BellsBelow x = new BellsBelow();
        is("house() of " + right + " ^ " + wrong, Due.house(x, right + wrong), -10 - right.length());
        is("count(1)", x.count(1), 0);
        is("count(5)", x.count(5), 0);
        is("told(1)", x.told(1), 2);
    }

    // ---- promise 9: feed

    static void p09_BAD_sign_outside_0_to_127() {
        for (int sign : outside(0, 127)) {
            same("feed(" + sign + ")", Stage::some, x -> x.feed(sign), BAD);
        }
    }

    static void p09_sign_0_and_127_fit() {
        BellsBelow x = new BellsBelow();
        is("feed(0)", x.feed(0), 1);
        is("feed(127)", x.feed(127), 2);
        is("count(5)", x.count(5), 2);
    }

    static void p09_the_hundredth_still_fits() {
        BellsBelow x = new BellsBelow();
        for (int i = 1; i <= 100; i++) {
            is("feed as " + i, x.feed('s'), i);
        }
        is("the next", x.feed('s'), FULL);
        is("count(5)", x.count(5), 100);
    }

    static void p09_FULL_the_one_behind_the_hundredth() {
        same("feed('r')", Stage::fullText, x -> x.feed('r'), FULL);
        same("feed(0)", Stage::fullText, x -> x.feed(0), FULL);
        same("feed(127)", Stage::fullText, x -> x.feed(127), FULL);
    }

    static void p09_BAD_ahead_of_FULL() {
        for (int sign : outside(0, 127)) {
            same("feed(" + sign + ")", Stage::fullText, x -> x.feed(sign), BAD);
        }
    }

    static void p09_behind_a_full_TEXT_made_a_HOUSE_there_is_room() {
        BellsBelow x = new BellsBelow();
        Due.feed(x, hundred());
        is("the next", x.feed('r'), FULL);
        is("house()", x.house(), 0);
        is("the first of the new", x.feed('r'), 1);
    }

    // ---- promise 10: house

    static void p10_FAULT_of_an_empty_TEXT() {
        fault("", "");
    }

    static void p10_a_TEXT_of_100_is_a_HOUSE() {
        is("its signs", hundred().length(), 100);
        house(hundred());
        BellsBelow x = Stage.masters(0, 0);
        Due.house(x, hundred());
        is("COST by its last test", x.of(1, 11), 11);
        is("COST by none", x.of(0, 10), 0);
    }

    static void p10_FAULT_at_the_hundredth() {
        fault(hundred().substring(0, 99), "x");
        fault(hundred().substring(0, 98), "x1");
    }

    static void p10_FAULT_at_the_end_of_a_TEXT_of_100() {
        String early = "slow 11 " + "p=1|".repeat(23);
        is("its signs", early.length(), 100);
        fault(early, "");
    }

    static void p10_FAULT_at_the_end_of_a_TEXT_of_100_behind_each_part() {
        String[] ends = {
            "rest 1;", "rest 1;s", "rest 1;slow", "rest 1;slow ", "rest 1;slow 1", "rest 1;slow 1 ",
            "rest 1;slow 1 p", "rest 1;slow 1 p=", "rest 1;slow 1 !", "rest 1;slow 1 (",
            "rest 1;slow 1 (p=1", "rest 1;slow 1 p=1|", "rest 1;slow 1 p=1&", "rest 1;k",
            "rest 1;keen ", "rest 1;r", "rest 1;rest", "rest 1;rest "
        };
        for (String end : ends) {
            String text = hundredEnding(end);
            is("signs of it", text.length(), 100);
            fault(text, "");
        }
        String[] houses = {"rest 1", "rest 12", "slow 1 p=1", "keen 1 (p=1)", "keen 1 p<11"};
        for (String end : houses) {
            String text = hundredEnding(end);
            is("signs of it", text.length(), 100);
            house(text);
        }
    }

    /** One clause as long as it must be, then the end. */
    private static String hundredEnding(String end) {
        int left = 100 - end.length() - ";".length();
        StringBuilder text = new StringBuilder("slow 1 p=1");
        while (left - text.length() >= 4) {
            text.append("|p=1");
        }
        // What is left is made up by second digits.
        for (int i = left - text.length(); i > 0; i--) {
            text.insert(text.length() - (i - 1) * 4, '0');
        }
        return text.append(';').append(end).toString();
    }

    static void p10_FAULT_behind_a_longer_TEXT_that_was() {
        BellsBelow x = new BellsBelow();
        is("the longer", Due.house(x, "rest 1;rest 2;slow 12 p=12|p=1x"), -40);
        is("as far as a ;", Due.house(x, "rest 1;"), -17);
        is("as far as a digit", Due.house(x, "rest 1;rest 2;slow 1"), -30);
        is("as far as a relation", Due.house(x, "rest 1;rest 2;slow 12 p="), -34);
        is("as far as a whole one", Due.house(x, "rest 1"), 0);
        is("its REST", x.told(1), 1);
    }

    static void p10_FAULT_at_the_first_of_several() {
        fault("slow 1 ", "q=1;slow 2 q=1;q");
        fault("", "xslow 1 p=1");
    }

    static void p10_FAULT_at_the_end_if_it_ends_too_early() {
        String whole = "slow 12 !(p=1|k<2)&v>3;rest 4";
        for (int n = 0; n < whole.length(); n++) {
            String early = whole.substring(0, n);
            // Behind each of the two F, and nowhere else, it is a HOUSE already.
            if (n == 18 || n == 22) {
                house(early);
            } else {
                fault(early, "");
            }
        }
        house(whole);
    }

    static void p10_FAULT_of_signs_0_and_127() {
        fault("", "\0");
        fault("slow 1 p=1", "\0");
        fault("rest 1", "\177");
        fault("slow", "\t1 p=1");
    }

    static void p10_FAULT_of_great_letters() {
        fault("", "Slow 1 p=1");
        fault("s", "Low 1 p=1");
        fault("slow 1 ", "P=1");
        fault("r", "Est 1");
        fault("", "K");
    }

    static void p10_FAULT_of_a_word_cut_short_or_mixed() {
        fault("s", "een 1 p=1");
        fault("k", "low 1 p=1");
        fault("r", "low 1 p=1");
        fault("slo", " 1 p=1");
        fault("kee", " 1 p=1");
        fault("res", " 1");
        fault("slow", "er 1 p=1");
        fault("rest", "s 1");
    }

    static void p10_the_sixth_HOUSE_still_fits() {
        BellsBelow x = new BellsBelow();
        for (int i = 0; i < 6; i++) {
            is("house() as " + i, Due.house(x, "rest " + i), i);
            is("REST", x.told(1), i);
            is("count(1)", x.count(1), i + 1);
        }
    }

    static void p10_FULL_the_seventh_HOUSE_and_THE_TEXT_stays() {
        same("house()", Stage::fullHouses, BellsBelow::house, FULL);
        BellsBelow x = Stage.fullHouses();
        is("count(5) ahead", x.count(5), 6);
        is("house()", x.house(), FULL);
        is("count(5)", x.count(5), 6);
        is("count(1)", x.count(1), 6);
        is("REST stays", x.told(1), 1);
        is("feed", x.feed('7'), 7);
    }

    static void p10_FULL_ahead_of_a_FAULT() {
        same("house() with a FAULT", Stage::fullHousesFaulty, BellsBelow::house, FULL);
        BellsBelow x = Stage.fullHousesFaulty();
        is("house() with a FAULT", x.house(), FULL);
        is("count(5)", x.count(5), 7);
        BellsBelow y = new BellsBelow();
        for (int i = 0; i < 6; i++) {
            Due.house(y, "rest 1");
        }
        is("house() of an empty TEXT", y.house(), FULL);
    }

    static void p10_FULL_behind_undo_too() {
        BellsBelow x = new BellsBelow();
        x.image();
        for (int i = 0; i < 6; i++) {
            Due.house(x, "rest 1");
        }
        x.undo();
        is("count(1)", x.count(1), 6);
        is("house()", Due.house(x, "rest 1"), FULL);
        is("REST without one", x.told(1), 2);
    }

    static void p10_THE_TEXT_is_empty_then() {
        BellsBelow x = new BellsBelow();
        is("house()", Due.house(x, "rest 5"), 0);
        is("count(5)", x.count(5), 0);
        is("house() again", x.house(), -10);
        is("REST stays", x.told(1), 5);
    }

    static void p10_THE_TEXT_is_empty_by_a_FAULT_too() {
        BellsBelow x = new BellsBelow();
        is("house()", Due.house(x, "rest 5x"), -16);
        is("count(5)", x.count(5), 0);
        is("house() of what comes then", Due.house(x, "rest 6"), 0);
        is("REST", x.told(1), 6);
    }

    static void p10_nothing_of_a_FAULT_s_TEXT_is_in_the_next_HOUSE() {
        BellsBelow x = Stage.masters(0);
        is("house()", Due.house(x, "rest 5;slow 9 p=0;x"), -28);
        is("the next", Due.house(x, "slow 1 p=1"), 0);
        is("REST without a rest", x.told(1), 2);
        is("COST", x.of(0, 10), 0);
    }

    static void p10_the_one_that_held_holds_by_a_FAULT() {
        BellsBelow x = Stage.masters(0);
        Due.house(x, "slow 7 p=0;rest 8");
        String[] faulty = {"", "slow 50 p=0;rest 9;", "rest 9;slow 50 p=0|", "keen 3 p=0 "};
        for (String text : faulty) {
            isSo("a FAULT of " + text, Due.house(x, text) <= -10);
            is("REST behind " + text, x.told(1), 8);
            is("COST behind " + text, x.of(0, 10), 7);
            is("count(1) behind " + text, x.count(1), 1);
        }
        is("the next HOUSE", Due.house(x, "rest 1"), 1);
        is("its REST", x.told(1), 1);
        is("its COST", x.of(0, 10), 0);
    }

    static void p10_none_holds_by_a_FAULT_of_the_first() {
        BellsBelow x = Stage.masters(0);
        is("house()", Due.house(x, "slow 50 p=0;rest 9;"), -29);
        is("REST", x.told(1), 2);
        is("COST", x.of(0, 10), 0);
    }

    static void p10_CLAUSES_1_and_10_fit() {
        house("rest 1");
        house("rest 1" + ";rest 1".repeat(9));
        BellsBelow x = Stage.masters(0);
        is("ten", Due.house(x, "slow 1 p=0" + ";rest 3".repeat(8) + ";slow 9 p=0"), 0);
        is("COST by the first and the tenth", x.of(0, 10), 10);
    }

    static void p10_CLAUSES_11_do_not() {
        fault("rest 1" + ";rest 1".repeat(9), ";rest 1");
        fault("rest 1" + ";rest 1".repeat(9), ";");
        fault("rest 1" + ";rest 1".repeat(9), "x");
    }

    static void p10_CLAUSES_are_not_empty() {
        fault("", ";rest 1");
        fault("rest 1;", "");
        fault("rest 1;", ";rest 1");
        fault("rest 1", ",rest 1");
    }

    static void p10_one_blank_ahead_of_each_part() {
        fault("slow", "1 p=1");
        fault("slow ", " 1 p=1");
        fault("slow 1", "p=1");
        fault("slow 1 ", " p=1");
        fault("keen ", " 1 p=1");
        fault("keen 1 ", " p=1");
        fault("rest", "1");
        fault("rest ", " 1");
    }

    static void p10_no_blank_elsewhere() {
        fault("", " slow 1 p=1");
        fault("slow 1 p=1", " ");
        fault("slow 1 p", " =1");
        fault("slow 1 p=", " 1");
        fault("slow 1 p=1", " |p=1");
        fault("slow 1 p=1|", " p=1");
        fault("slow 1 !", " p=1");
        fault("slow 1 (", " p=1)");
        fault("slow 1 (p=1", " )");
        fault("rest 1", " ;rest 1");
        fault("rest 1;", " rest 1");
    }

    static void p10_n_of_1_or_2_digits() {
        String[] words = {"slow ", "keen "};
        for (String word : words) {
            house(word + "0 p=1");
            house(word + "00 p=1");
            house(word + "99 p=1");
            fault(word, "p=1");
            fault(word, " p=1");
            fault(word + "10", "0 p=1");
            fault(word + "00", "1 p=1");
            fault(word, "-1 p=1");
        }
    }

    static void p10_n_of_rest_of_1_or_2_digits() {
        int[] rest = {0, 0, 9, 99};
        String[] texts = {"rest 0", "rest 00", "rest 09", "rest 99"};
        for (int i = 0; i < texts.length; i++) {
            BellsBelow x = new BellsBelow();
            is("house() of " + texts[i], Due.house(x, texts[i]), 0);
            is("its REST", x.told(1), rest[i]);
        }
        fault("rest ", "");
        fault("rest ", ";");
        fault("rest 10", "0");
        fault("rest ", "-1");
    }

    static void p10_a_number_of_1_or_2_digits() {
        house("slow 1 p=0");
        house("slow 1 p=00");
        house("slow 1 p=99");
        fault("slow 1 p=", "");
        fault("slow 1 p=", "|p=1");
        fault("slow 1 p=10", "0");
        fault("slow 1 p<", "-1");
    }

    static void p10_a_digit_is_0_to_9() {
        fault("rest ", "/");
        fault("rest ", ":");
        fault("rest 1", ":");
        fault("rest 1", "/");
        fault("slow 1 p=", "/");
        fault("slow 1 p=1", ":");
    }

    static void p10_a_TEST_has_one_of_six_letters() {
        for (char letter = 0; letter < 128; letter++) {
            if ("pkvfam".indexOf(letter) >= 0) {
                house("slow 1 " + letter + "=1");
            } else if (letter != '(' && letter != '!') {
                fault("slow 1 ", letter + "=1");
            }
        }
    }

    static void p10_a_TEST_has_one_of_three_relations() {
        for (char relation = 0; relation < 128; relation++) {
            if ("<=>".indexOf(relation) >= 0) {
                house("slow 1 p" + relation + "1");
            } else {
                fault("slow 1 p", relation + "1");
            }
        }
        fault("slow 1 p<", "=1");
        fault("slow 1 p=", "=1");
    }

    static void p10_4_brackets_within_each_other_not_5() {
        house("slow 1 ((((p=1))))");
        fault("slow 1 ((((", "(p=1)))))");
        fault("slow 1 ((((p=1|", "(p=1)))))");
        fault("slow 1 ((((p=1&", "(p=1)))))");
    }

    static void p10_4_exclamation_marks_within_each_other_not_5() {
        house("slow 1 !!!!p=1");
        fault("slow 1 !!!!", "!p=1");
    }

    static void p10_4_of_both_within_each_other_not_5() {
        house("slow 1 !(!(p=1))");
        house("slow 1 (!(!p=1))");
        house("slow 1 !!!(p=1)");
        house("slow 1 (((!p=1)))");
        fault("slow 1 ((((", "!p=1))))");
        fault("slow 1 !!!!", "(p=1)");
        fault("slow 1 (!(!", "(p=1)))");
        fault("slow 1 !(!(", "!p=1))");
        fault("slow 1 (p=1|!((", "(p=1))))");
    }

    static void p10_what_is_closed_is_within_no_more() {
        house("slow 1 ((((p=1))))|((((p=1))))&!!!!p=1");
        house("slow 1 (((!p=1|!p=1)&!p=1)|!!!p=1)|!!!!p=1");
        house("slow 1 !!!!p=1;keen 1 !!!!p=1");
        fault("slow 1 ((((p=1)))|", ")");
        fault("slow 1 ((((p=1)))|!!!", "!p=1)");
        fault("slow 1 ((((p=1))))", ")");
        fault("slow 1 ((((p=1)))", "");
    }

    static void p10_brackets_are_not_empty() {
        fault("slow 1 (", ")");
        fault("slow 1 !", ")");
        fault("slow 1 p=1", "(");
        fault("slow 1 p=1", "!");
    }

    static void p10_E_and_T_end_with_one_that_holds() {
        fault("slow 1 p=1|", "");
        fault("slow 1 p=1&", "");
        fault("slow 1 p=1|", "|p=1");
        fault("slow 1 p=1&", "&p=1");
        fault("slow 1 p=1|", "&p=1");
        fault("slow 1 p=1&", "|p=1");
        fault("slow 1 ", "|p=1");
        fault("slow 1 ", "&p=1");
        fault("slow 1 p=1|", ";rest 1");
        fault("slow 1 p=1&", ";rest 1");
    }

    static void p10_slow_and_keen_have_an_E() {
        fault("slow 1", "");
        fault("slow 1 ", "");
        fault("slow 1", ";rest 1");
        fault("keen 1", "");
        fault("keen 1 ", ";rest 1");
    }

    static void p10_rest_has_no_E() {
        fault("rest 1", " p=1");
        fault("rest 12", " p=1");
    }

    static void p10_n_0_and_99_count() {
        BellsBelow x = Stage.masters(0);
        Due.house(x, "slow 0 p=0;keen 0 p=0");
        is("0 more, 0 less", x.of(0, 10), 0);
        Due.house(x, "slow 99 p=0;slow 9 p=0");
        is("99 and 9 more", x.of(0, 10), 108);
        Due.house(x, "keen 99 p=0;keen 9 p=0");
        is("99 and 9 less", x.of(0, 10), -108);
    }

    static void p10_SUM_at_its_most_and_its_least() {
        String[] words = {"slow", "keen"};
        for (String word : words) {
            BellsBelow x = Stage.masters(0);
            String clause = word + " 99 p=0";
            is("eight of 99", Due.house(x, clause + (";" + clause).repeat(7)), 0);
            is("SUM by " + word, x.of(0, 19), 18 + (word.equals("slow") ? 792 : -792));
        }
    }

    // ---- promise 11: told

    static void p11_NONE_no_such_what() {
        int[] whats = {-1, 7, 8, 9, 30, 31, -246, 256, LEAST, LEAST + 10, LEAST + 20, MOST, MOST - 9};
        for (int what : whats) {
            same("told(" + what + ")", Stage::some, x -> x.told(what), NONE);
        }
    }

    static void p11_what_is_asked_changes_nothing() {
        for (int what = 0; what < 30; what++) {
            int asked = what;
            BellsBelow y = Stage.some();
            same("told(" + what + ")", Stage::some, x -> x.told(asked), y.told(asked));
        }
    }

    static void p11_REST_2_without_a_HOUSE_or_a_rest() {
        BellsBelow x = new BellsBelow();
        is("without a HOUSE", x.told(1), 2);
        Due.house(x, "slow 9 p=0");
        is("without a rest", x.told(1), 2);
    }

    static void p11_REST_the_last_one_s() {
        BellsBelow x = new BellsBelow();
        Due.house(x, "rest 9;rest 0;slow 1 p=0");
        is("the last is 0", x.told(1), 0);
        Due.house(x, "rest 0;slow 1 p=0;rest 99");
        is("the last is 99", x.told(1), 99);
    }

    static void p11_QUIET_0_if_none_is_RUNG() {
        BellsBelow x = new BellsBelow();
        is("without MASTERS", x.told(4), 0);
        x.master(0, 0, 0);
        is("with one", x.told(4), 0);
        x.ring(0);
        is("RUNG", x.told(4), 1);
    }

    static void p11_QUIET_behind_60_still_behind_61_not() {
        BellsBelow x = Stage.masters(0);
        x.ring(1);
        x.set(0, 1, 59);
        is("in the sixtieth", x.told(4), 60);
        x.set(0, 1, 60);
        is("in the one behind", x.told(4), NOT);
        x.set(0, 1, 99);
        is("far behind", x.told(4), NOT);
    }

    static void p11_QUIET_never_without_MASTERS() {
        BellsBelow x = new BellsBelow();
        x.ring(9);
        is("QUIET", x.told(4), NOT);
    }

    static void p11_QUIET_beyond_MINUTE_9999() {
        BellsBelow x = Stage.passedTo(Stage.masters(0), 9999);
        x.ring(9);
        is("QUIET", x.told(4), 9);
        is("MINUTE", x.told(0), 9999);
    }

    static void p11_CROSSED_0_none_and_9_at_most() {
        BellsBelow x = new BellsBelow();
        is("none: times", x.told(5), 0);
        is("none: the first", x.told(6), NOT);
        for (int f = 0; f < 9; f++) {
            x.cross(f, f + 1);
            is("one loop of " + (f + 2), x.told(5), f + 1);
        }
        is("the first", x.told(6), 0);
    }

    static void p11_CROSSED_the_first_0_and_8() {
        BellsBelow x = new BellsBelow();
        x.cross(8, 9);
        is("8 and 9: times", x.told(5), 1);
        is("8 and 9: the first", x.told(6), 8);
        x.cross(0, 9);
        is("three: times", x.told(5), 2);
        is("three: the first", x.told(6), 0);
    }

    static void p11_CROSSED_by_loops_of_two() {
        BellsBelow x = new BellsBelow();
        for (int f = 0; f < 10; f += 2) {
            x.cross(f, f + 1);
        }
        is("five of two", x.told(5), 5);
        for (int f = 0; f < 10; f++) {
            is("LOOP of " + f, x.told(20 + f), 2);
        }
    }

    static void p11_CROSSED_by_each_loop_of_four() {
        int[][] orders = {{1, 2, 3}, {1, 3, 2}, {2, 1, 3}, {2, 3, 1}, {3, 1, 2}, {3, 2, 1}};
        for (int[] order : orders) {
            BellsBelow x = new BellsBelow();
            // Each change puts one FLOOR more into the loop of 0.
            for (int f : order) {
                x.cross(0, f);
            }
            is("times", x.told(5), 3);
            is("the first", x.told(6), 0);
            for (int f = 0; f < 10; f++) {
                is("LOOP of " + f, x.told(20 + f), f < 4 ? 4 : 1);
            }
        }
    }

    static void p11_CROSSED_by_loops_of_several_lengths() {
        BellsBelow x = new BellsBelow();
        x.cross(9, 4);
        x.cross(4, 0);
        x.cross(8, 1);
        x.cross(7, 3);
        x.cross(3, 6);
        x.cross(6, 2);
        is("three, two and four", x.told(5), 2 + 1 + 3);
        is("LOOP of 9", x.told(29), 3);
        is("LOOP of 8", x.told(28), 2);
        is("LOOP of 7", x.told(27), 4);
        is("LOOP of 5", x.told(25), 1);
    }

    static void p11_LOOP_1_and_10() {
        BellsBelow x = new BellsBelow();
        x.cross(0, 1);
        is("LOOP of 9", x.told(29), 1);
        is("LOOP of 0", x.told(20), 2);
        for (int f = 1; f < 9; f++) {
            x.cross(f, f + 1);
        }
        for (int f = 0; f < 10; f++) {
            is("LOOP of " + f + ", all in one", x.told(20 + f), 10);
        }
    }

    static void p11_WIRES_of_FLOOR_0_and_9() {
        BellsBelow x = new BellsBelow();
        x.cross(0, 9);
        is("told(10)", x.told(10), 9);
        is("told(19)", x.told(19), 0);
        is("told(20)", x.told(20), 2);
        is("told(29)", x.told(29), 2);
    }

    static void p11_MINUTE_9999_is_told() {
        is("told(0)", Stage.late().told(0), 9999);
    }

    static void p11_RUNG_all_and_none() {
        BellsBelow x = new BellsBelow();
        is("none", x.told(2), 0);
        for (int f = 0; f < 10; f++) {
            x.ring(f);
        }
        is("all", x.told(2), 1023);
        x.pass(1);
        is("WAITED", x.told(3), 10);
        x.pass(60);
        is("WAITED then", x.told(3), 610);
    }

    static void p11_WAITED_at_the_most_that_can_be() {
        BellsBelow x = new BellsBelow();
        for (int f = 0; f < 10; f++) {
            x.ring(f);
        }
        Stage.passedTo(x, 9999);
        is("WAITED", x.told(3), 99990);
        is("WAITED goes on where it is asked", x.on(60, 1), 100590);
    }
}
