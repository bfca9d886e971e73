/** The example of README.md, word by word: ReadmeTest holds what it prints against what stands there. */
public final class Evening {
    public static void main(String[] args) {
        BellsBelow x = new BellsBelow();

        // Two come: KIND, v, FLOOR. The answer is the number by which each is called from now on.
        tells("master(0, 5, 2)", x.master(0, 5, 2));
        tells("master(5, 3, 9)", x.master(5, 3, 9));

        // A HOUSE is a text, fed sign by sign. Its number is the answer; it holds from now on.
        for (char sign : "slow 6 k=5&f<8;rest 1".toCharArray()) {
            x.feed(sign);
        }
        tells("count(5)", x.count(5));
        tells("house()", x.house());

        // The WIRES of FLOORS 4 and 7 are crossed; so the bell of 7 rings for 4.
        tells("cross(4, 7)", x.cross(4, 7));
        tells("ring(7)", x.ring(7));

        // What will be is asked, and changes nothing.
        tells("of(0, 14)", x.of(0, 14));
        tells("of(1, 14)", x.of(1, 14));
        tells("bell(7, 1)", x.bell(7, 1));
        tells("bell(9, 1)", x.bell(9, 1));
        tells("told(4)", x.told(4));
        tells("on(1, 10)", x.on(1, 10));
        tells("odds(1, 0)", x.odds(1, 0));
        tells("odds(1, 1)", x.odds(1, 1));

        // THE IMAGE is taken, a MINUTE goes, one more.
        tells("image()", x.image());
        tells("pass(1)", x.pass(1));
        tells("of(0, 3)", x.of(0, 3));
        tells("told(3)", x.told(3));
        tells("pass(1)", x.pass(1));
        tells("of(0, 2)", x.of(0, 2));
        tells("of(0, 3)", x.of(0, 3));
        tells("told(2)", x.told(2));

        // All is as THE IMAGE again.
        tells("undo()", x.undo());
        tells("told(0)", x.told(0));
        tells("told(2)", x.told(2));

        // Some calls that are refused: these change nothing.
        tells("master(7, 0, 0)", x.master(7, 0, 0));
        tells("pass(61)", x.pass(61));
        tells("row(0, 0, 1)", x.row(0, 0, 1));
        tells("of(6, 0)", x.of(6, 0));
        tells("read(0, 0)", x.read(0, 0));
    }

    private static void tells(String call, long answer) {
        System.out.println(call + " is " + answer);
    }
}
