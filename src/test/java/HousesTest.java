/** Promises 9 and 10: THE TEXT, and HOUSES made of it. */
public final class HousesTest {
    private static final Due DUE = new Due("HousesTest");

    public static void main(String[] args) {
        feeding();
        faults();
        clauses();
        depth();
        manyHouses();
        sums();
        rests();
        holds();
        DUE.ends();
    }

    private static void feeding() {
        BellsBelow x = new BellsBelow();
        DUE.is("feed -1", x.feed(-1), -2);
        DUE.is("feed 128", x.feed(128), -2);
        DUE.is("feed 0", x.feed(0), 1);
        DUE.is("feed 127", x.feed(127), 2);
        for (int i = 3; i <= 100; i++) {
            DUE.is("feed as " + i, x.feed('a'), i);
        }
        DUE.is("a sign too many", x.feed('a'), -4);
        DUE.is("a bad sign too many", x.feed(128), -2);
        DUE.is("bytes", x.count(5), 100);
        DUE.is("house", x.house(), -10);
        DUE.is("bytes then", x.count(5), 0);
        DUE.is("feed anew", x.feed('a'), 1);
    }

    /** The text up to the sign at fault, and what stands there and behind it. */
    private static void fault(String good, String bad) {
        DUE.is("fault of " + good + " ^ " + bad, Due.house(new BellsBelow(), good + bad),
            -10 - good.length());
    }

    private static void good(String text) {
        DUE.is("house of " + text, Due.house(new BellsBelow(), text), 0);
    }

    private static void faults() {
        fault("", "");
        fault("", "x");
        fault("", ";");
        fault("", "(p=1)");
        fault("s", "");
        fault("slo", "t 1 p=1");
        fault("slow", "");
        fault("slow", "1 p=1");
        fault("slow ", "");
        fault("slow ", "p=1");
        fault("slow 1", "");
        fault("slow 12", "3 p=1");
        fault("slow 12 ", "");
        fault("slow 12 ", " p=1");
        fault("slow 1 p", "");
        fault("slow 1 p", "!1");
        fault("slow 1 p=", "");
        fault("slow 1 p=", "x");
        fault("slow 1 p=1", "x");
        fault("slow 1 p=12", "3");
        fault("slow 1 p=1", ")");
        fault("slow 1 p=1", " ");
        fault("slow 1 ", "q=1");
        fault("slow 1 (p=1", "");
        fault("slow 1 (p=1", ";");
        fault("slow 1 (p=1)", "p");
        fault("slow 1 (", ")");
        fault("slow 1 p=1|", "");
        fault("slow 1 p=1|", "|p=1");
        fault("slow 1 p=1&", ";");
        fault("slow 1 p=1;", "");
        fault("slow 1 p=1;", " keen 1 p=1");
        fault("slow 1 !", "");
        fault("k", "n 1 p=1");
        fault("keen", "1");
        fault("keen 1 p=1;k", "2");
        fault("rest ", "");
        fault("rest 1", " p=1");
        fault("rest 12", "3");
        fault("rest", "");
        fault("re", "nt");
        fault("slow 1 p=1;rest 1;", "");
        good("slow 1 p=1");
        good("slow 00 p<99");
        good("keen 12 !p=1|k>0&(v=1)");
        good("rest 0");
        good("rest 99;slow 1 a=0;rest 01");
    }

    private static void clauses() {
        StringBuilder ten = new StringBuilder("rest 1");
        for (int i = 1; i < 10; i++) {
            ten.append(";rest 1");
        }
        good(ten.toString());
        fault(ten.toString(), ";rest 1");
        fault(ten.toString(), ";");
    }

    private static void depth() {
        good("slow 1 ((((p=1))))");
        good("slow 1 !!!!p=1");
        good("slow 1 (!(!p=1))");
        fault("slow 1 ((((", "(p=1)))))");
        fault("slow 1 !!!!", "!p=1");
        fault("slow 1 ((((", "!p=1))))");
        fault("slow 1 !!!!", "(p=1)");
        fault("slow 1 (!(!", "(p=1)))");
        good("slow 1 ((((p=1))))&((((p=1))))|!!!!p=1;keen 1 ((((p=1))))");
        good("slow 1 (((!p=1)&!p=1)&!!!p=1)");
    }

    private static void manyHouses() {
        BellsBelow x = new BellsBelow();
        for (int i = 0; i < 6; i++) {
            DUE.is("house " + i, Due.house(x, "rest " + i), i);
            DUE.is("a fault", Due.house(x, "rest x"), i < 5 ? -15 : -4);
            if (i < 5) {
                DUE.is("rest stays", x.told(1), i);
            }
        }
        DUE.is("houses", x.count(1), 6);
        DUE.is("the text stays", x.count(5), 6);
        DUE.is("full", x.house(), -4);
        DUE.is("rest of the last", x.told(1), 5);
    }

    private static void sums() {
        // Each test in turn, of a MASTER 1 of KIND 3 with v 4 on 5, for FLOOR 8, in MINUTE 13.
        holds("p=1", true);
        holds("p=0", false);
        holds("p>0", true);
        holds("p<1", false);
        holds("k=3", true);
        holds("k<3", false);
        holds("v=4", true);
        holds("v>3", true);
        holds("f=8", true);
        holds("f=5", false);
        holds("a=3", true);
        holds("a<3", false);
        holds("m=3", true);
        holds("m=13", false);
        holds("p=01", true);
        holds("!p=1", false);
        holds("!!p=1", true);
        // ! binds its F alone, & binds more than |.
        holds("!p=0&k=0", false);
        holds("p=1|k=0&v=0", true);
        holds("(p=1|k=0)&v=0", false);
        holds("p=0&k=0|v=4", true);
        holds("p=0|k=0|v=4", true);
        holds("p=1&k=3&v=0", false);
        holds("!(p=1&k=0)", true);
        holds("!(p=1|k=0)", false);
        holds("p=0|!(k=3&!(v=4|a=0))", true);
        together();
    }

    private static BellsBelow stage() {
        BellsBelow x = new BellsBelow();
        x.master(0, 0, 0);
        x.master(3, 4, 5);
        x.pass(13);
        return x;
    }

    private static void holds(String text, boolean so) {
        BellsBelow x = stage();
        DUE.is("a house", Due.house(x, "slow 20 " + text), 0);
        DUE.is("slow by " + text, x.of(1, 18), 6 + (so ? 20 : 0));
        DUE.is("a house", Due.house(x, "keen 20 " + text), 1);
        DUE.is("keen by " + text, x.of(1, 18), 6 - (so ? 20 : 0));
    }

    private static void together() {
        BellsBelow x = stage();
        Due.house(x, "slow 9 p=1;keen 30 k=3;slow 50 p=0;rest 7;slow 2 v=4;keen 1 p=9");
        DUE.is("all together", x.of(1, 18), 6 + 9 - 30 + 2);
        DUE.is("of another", x.of(0, 10), 50);
        Due.house(x, "slow 5 p=0");
        DUE.is("by the newest alone", x.of(1, 18), 6);
        Due.house(x, "slow 40 p=1;rest");
        Due.house(x, "slow 4 p=1;keen 0 p=1;slow 0 p=1");
        DUE.is("nothing of a fault, 0 for 0", x.of(1, 18), 10);
    }

    private static void rests() {
        BellsBelow x = new BellsBelow();
        x.master(0, 0, 4);
        DUE.is("without a house", x.told(1), 2);
        Due.house(x, "rest 3;rest 5;slow 1 p=0");
        DUE.is("the last", x.told(1), 5);
        x.ring(4);
        x.pass(1);
        DUE.is("rests by it", x.of(0, 4), 5);
        Due.house(x, "slow 1 p=0");
        DUE.is("a house without", x.told(1), 2);
        Due.house(x, "rest 0");
        x.set(0, 1, 0);
        x.ring(4);
        x.pass(1);
        DUE.is("no rest", x.of(0, 7), 1);
        DUE.is("came twice", x.of(0, 6), 2);
    }

    private static void holds() {
        BellsBelow x = new BellsBelow();
        DUE.is("first", Due.house(x, "rest 7"), 0);
        DUE.is("fault", Due.house(x, "rest 8;"), -17);
        DUE.is("the one that held holds", x.told(1), 7);
        DUE.is("the text is empty", x.count(5), 0);
        DUE.is("second", Due.house(x, "rest 9"), 1);
        DUE.is("the text is empty then, too", x.count(5), 0);
        DUE.is("the newest holds", x.told(1), 9);
    }
}
