import java.util.ArrayList;
import java.util.HashSet;
import java.util.List;
import java.util.Set;
import java.util.function.Consumer;

/** Boundary cases of the document's Terms, and what holds for the answers of all calls. */
public final class EdgeTermsTest extends Edge {
    private static final Class<?>[] TESTS = {
        EdgeTermsTest.class, EdgeMastersTest.class, EdgeHousesTest.class, EdgeMinutesTest.class,
        EdgeSeenTest.class, EdgePlansTest.class, EdgeActsTest.class, EdgeTapesTest.class
    };
    private static final int[] ENDS = {LEAST, LEAST + 1, -10001, -2, -1, 0, 1, 9, 10, MOST - 1, MOST};

    public static void main(String[] args) {
        run(EdgeTermsTest.class);
    }

    static void t0_each_promise_has_its_boundary_cases() {
        Set<String> places = new HashSet<>();
        for (Class<?> tests : TESTS) {
            testsOf(tests).forEach(m -> places.add(m.getName().substring(0, 3)));
        }
        for (int promise = 1; promise <= 35; promise++) {
            isSo("promise " + promise, places.contains((promise < 10 ? "p0" : "p") + promise));
        }
    }

    static void t0_the_constants() {
        is("NONE", BellsBelow.NONE, -1);
        is("BAD", BellsBelow.BAD, -2);
        is("STATE", BellsBelow.STATE, -3);
        is("FULL", BellsBelow.FULL, -4);
        is("NO", BellsBelow.NO, Long.MIN_VALUE);
    }

    // ---- the first of the Terms: what minutes do

    static void t1_MASTERS_are_told_from_0_to_5_as_they_come() {
        BellsBelow x = new BellsBelow();
        for (int p = 0; p < 6; p++) {
            is("the next", x.master(6 - p, p, 9 - p), p);
            is("its v", x.of(p, 1), p);
        }
    }

    static void t1_without_MASTERS_MINUTES_go() {
        BellsBelow x = new BellsBelow();
        is("pass(60)", x.pass(60), 60);
        x.ring(0);
        is("pass(1)", x.pass(1), 61);
        is("RUNG", x.told(2), 1);
        is("WAITED", x.told(3), 1);
    }

    static void t1_each_FLOOR_from_each_FLOOR_in_as_many_MINUTES_as_APART() {
        for (int from = 0; from < 10; from++) {
            for (int to = 0; to < 10; to++) {
                BellsBelow x = new BellsBelow();
                x.master(0, 0, from);
                x.ring(to);
                int apart = Math.abs(from - to);
                is("COST from " + from + " to " + to, x.of(0, 10 + to), 2 * apart);
                is("QUIET from " + from + " to " + to, x.told(4), Math.max(1, apart));
            }
        }
    }

    static void t1_FREE_again_in_as_many_MINUTES_as_REST() {
        for (int rest = 0; rest <= 99; rest += 33) {
            BellsBelow x = Stage.masters(0);
            Due.house(x, "rest " + rest);
            x.ring(0);
            x.pass(1);
            Stage.passedTo(x, 1 + Math.max(0, rest - 1));
            is("FREE a MINUTE ahead, REST " + rest, x.of(0, 7), rest == 0 ? 1 : 0);
            Stage.passedTo(x, 1 + rest);
            is("FREE, REST " + rest, x.of(0, 7), 1);
        }
    }

    static void t1_CAME_goes_on_by_1() {
        BellsBelow x = Stage.masters(1);
        Due.house(x, "rest 0");
        for (int came = 0; came < 100; came++) {
            is("CAME", x.of(0, 6), came);
            is("COST of a DUKE", x.of(0, 10), came);
            x.ring(0);
            x.pass(1);
        }
    }

    static void t1_CAME_goes_on_as_far_as_512_calls_go() {
        BellsBelow x = Stage.masters(1);
        Due.house(x, "rest 0");
        for (int i = 1; i <= 40; i++) {
            for (int f = 0; f < 10; f++) {
                x.ring(f);
            }
            x.pass(60);
        }
        is("CAME", x.of(0, 6), 400);
        is("COST of a DUKE", x.of(0, 19), 400);
        is("COST of a DUKE, 9 APART", x.of(0, 10), 418);
    }

    static void t1_the_newest_HOUSE_holds() {
        BellsBelow x = Stage.masters(0);
        for (int i = 0; i < 6; i++) {
            Due.house(x, "slow " + i + " p=0;rest " + (9 - i));
            is("COST", x.of(0, 10), i);
            is("REST", x.told(1), 9 - i);
        }
    }

    static void t1_an_E_of_T_and_a_T_of_F() {
        BellsBelow x = Stage.masters(0);
        String[] so = {"p=0|p=1&p=1", "p=1&p=1|p=0", "!p=1&p=0", "!(p=1|p=1)", "!!p=0", "!!!p=1"};
        String[] not = {"(p=0|p=1)&p=1", "p=1&(p=1|p=0)", "!p=0|p=1", "!(p=1|p=0)", "!p=0", "!!!p=0"};
        for (int i = 0; i < so.length; i++) {
            x = Stage.masters(0);
            Due.house(x, "slow 9 " + so[i]);
            is("by " + so[i], x.of(0, 10), 9);
            Due.house(x, "slow 9 " + not[i]);
            is("by " + not[i], x.of(0, 10), 0);
        }
    }

    // ---- the second: what is asked

    /** Each question for the ends of all its arguments. */
    private static void asksAll(BellsBelow x, int a, int b) {
        x.of(a, b);
        x.told(a);
        x.on(a, b);
        x.bell(a, b);
        x.shared(a);
        x.from(a);
        x.can(a, b);
        x.odds(a, b);
        x.mean(a, b);
        x.ends(a);
        x.looked();
        x.judge(a, b);
        x.trace(a);
        x.taken(a, b);
        x.count(a);
        x.read(a, b);
    }

    static void t2_what_is_asked_changes_nothing() {
        String due = State.of(Stage.some());
        for (int a : ENDS) {
            for (int b : ENDS) {
                BellsBelow x = Stage.some();
                asksAll(x, a, b);
                isSo("asked by " + a + " " + b, State.of(x).equals(due));
            }
        }
    }

    static void t2_what_is_asked_twice_is_answered_alike() {
        for (int p = 0; p < 4; p++) {
            BellsBelow x = Stage.some();
            is("STANDS of " + p, x.of(p, 8), x.of(p, 8));
            is("FROM of " + p, x.from(p), x.from(p));
            is("CAN of " + p, x.can(p, 1), x.can(p, 1));
            is("ODDS of " + p, x.odds(p, 0), x.odds(p, 0));
            is("ON of " + p, x.on(60, 10 + p), x.on(60, 10 + p));
        }
    }

    static void t2_one_question_is_nothing_to_another() {
        List<Consumer<BellsBelow>> questions = new ArrayList<>(List.of(
            x -> x.on(60, 0), x -> x.bell(3, 0), x -> x.bell(3, 1), x -> x.shared(0), x -> x.from(0),
            x -> x.can(2, 0), x -> x.odds(0, 0), x -> x.mean(60, 0), x -> x.ends(0), x -> x.of(3, 8),
            x -> x.told(4)));
        for (Consumer<BellsBelow> question : questions) {
            BellsBelow x = Stage.some();
            BellsBelow y = Stage.some();
            question.accept(x);
            is("on(0, 0)", x.on(0, 0), y.on(0, 0));
            is("on(3, 13)", x.on(3, 13), y.on(3, 13));
            is("bell(5, 1)", x.bell(5, 1), y.bell(5, 1));
            is("shared(1)", x.shared(1), y.shared(1));
            is("from(2)", x.from(2), y.from(2));
            is("ends(1)", x.ends(1), y.ends(1));
        }
    }

    // ---- the third: answers

    static void t3_no_call_throws_by_any_numbers() {
        for (int a : ENDS) {
            for (int b : ENDS) {
                BellsBelow x = Stage.some();
                asksAll(x, a, b);
                for (int c : ENDS) {
                    changesAll(x, a, b, c);
                }
                asksAll(x, a, b);
                isSo("by " + a + " " + b, x.count(0) >= 4);
            }
        }
    }

    private static void changesAll(BellsBelow x, int a, int b, int c) {
        x.master(a, b, c);
        x.set(a, b, c);
        x.away(a, true);
        x.ring(a);
        x.cross(a, b);
        x.row(a, b, c);
        x.feed(a);
        x.house();
        x.pass(a);
        x.see(a, b, c);
        x.plan(a, b);
        x.book(a, b);
        x.act(a, b, c);
        x.tape(a, b, c);
        x.item(a, b, c);
        x.shift(a, b, c, a, b);
        x.shift(0, a, 0, b, c);
    }

    /** Where below 0 may be asked for, NONE is told by -10001; elsewhere it is -1. */
    static void t3_NONE_is_10001_below_0_where_less_than_0_may_be() {
        BellsBelow x = Stage.masters(5);
        Due.house(x, "keen 99 p=0");
        x.ring(0);
        is("COST below 0", x.of(0, 10), -49 - 9);
        is("COST of SHARED below 0", x.shared(1), -49 - 9);
        is("of", x.of(0, 9), NONE_LOW);
        is("shared", x.shared(9), NONE_LOW);
        is("told", x.told(9), NONE);
        is("on", x.on(0, 9), NONE);
    }
}
