/** Objects to begin from, each made anew by some 75 to 250 calls. */
final class Stage {
    private Stage() {
    }

    static BellsBelow fresh() {
        return new BellsBelow();
    }

    /** One MASTER of each KIND told, on FLOORS 0, 1, 2 and so on, with v of 9, 8, 7 and so on. */
    static BellsBelow masters(int... kinds) {
        BellsBelow x = new BellsBelow();
        for (int p = 0; p < kinds.length; p++) {
            x.master(kinds[p], 9 - p, p);
        }
        return x;
    }

    /** Some of all there is: one who goes, one who rests, one away, one free, a TOLD one. */
    static BellsBelow some() {
        BellsBelow x = new BellsBelow();
        x.master(0, 1, 2);
        x.master(1, 2, 9);
        x.master(5, 3, 4);
        x.master(6, 4, 0);
        x.row(3, 1, 5);
        Due.house(x, "slow 3 a>4|m=2;keen 2 k=5&!f<3;rest 4");
        x.cross(1, 6);
        x.cross(6, 8);
        x.ring(0);
        x.ring(8);
        x.pass(1);
        x.ring(5);
        x.ring(9);
        x.pass(1);
        x.away(1, true);
        x.see(0, 0, 2);
        x.plan(1, 3);
        x.plan(2, 0);
        x.plan(0, 0);
        x.book(2, 4);
        x.book(0, 7);
        x.image();
        x.set(2, 1, 7);
        x.ring(2);
        Due.feed(x, "rest");
        x.tape(0, 0, 12);
        x.item(0, 3, 4);
        x.tape(1, 3, 5);
        x.item(1, 2, -9);
        x.tape(2, 0, 3);
        x.act(3, 2, 5);
        return x;
    }

    /** As many MASTERS, SEEN, rows of the PLAN and of the BOOK as there may be. */
    static BellsBelow full() {
        BellsBelow x = some();
        x.master(2, 5, 5);
        x.master(3, 6, 6);
        // There is one SEEN already, and three rows of the PLAN, two of the BOOK.
        for (int i = 1; i < 5; i++) {
            x.see(4, i, 5);
        }
        for (int i = 3; i < 10; i++) {
            x.plan(0, 0);
        }
        for (int i = 2; i < 8; i++) {
            x.book(5, i);
        }
        return x;
    }

    /** THE TEXT is full: it has 100 signs. */
    static BellsBelow fullText() {
        BellsBelow x = some();
        for (int i = 4; i < 100; i++) {
            x.feed('r');
        }
        return x;
    }

    /** There are 6 HOUSES, and THE TEXT would be a seventh. */
    static BellsBelow fullHouses() {
        BellsBelow x = some();
        Due.house(x, " 3");
        for (int i = 2; i < 6; i++) {
            Due.house(x, "rest 1");
        }
        Due.feed(x, "rest 7");
        return x;
    }

    /** As fullHouses(), but THE TEXT has a FAULT. */
    static BellsBelow fullHousesFaulty() {
        BellsBelow x = fullHouses();
        x.feed('x');
        return x;
    }

    /** MINUTE is the last one there is. */
    static BellsBelow late() {
        BellsBelow x = masters(0, 4, 6);
        x.ring(7);
        return passedTo(x, 9999);
    }

    /** MINUTES go until it is so late; what rings or goes does so meanwhile. */
    static BellsBelow passedTo(BellsBelow x, int minute) {
        for (int at = x.told(0); at < minute; at += 60) {
            x.pass(Math.min(60, minute - at));
        }
        return x;
    }
}
