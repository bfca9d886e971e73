/** A house of ten floors, its bells, wires and masters, as ../shared/DOC.md tells it. */
public final class BellsBelow {
    public static final int NONE = -1, BAD = -2, STATE = -3, FULL = -4;
    public static final long NO = Long.MIN_VALUE;

    private static final int NOT = -5;
    private static final int NOTHING = -11, CAST = -12, PLACE = -13, SIZE = -14;
    private static final int NONE_LOW = -10001;

    private static final int FLOORS = 10, MASTERS = 6, KINDS = 7, PARTS = 4;
    private static final int HOUSES = 6, TAPES = 6, SIGNS = 100, ITEMS = 60;
    private static final int LAST_MINUTE = 9999, MOST_PASSED = 60, MOST_SEEN = 20;
    private static final int MOST_CAME = 9999, MOST_WAITED = 999999;
    /** More than anything that is counted can come to. */
    private static final int NO_LIMIT = 2147483647;

    private static final int DUKE = 1, LADY = 2, PEER = 3, EARL = 4, ROSE = 5, TOLD = 6;
    /** The KIND above each KIND; -1 above MASTER. */
    private static final int[] ABOVE = {-1, 0, 0, 0, DUKE, LADY, PEER};

    private final Hall now = new Hall(MOST_CAME, MOST_WAITED);
    // What is asked goes on beyond the limits of what is.
    private final Hall trial = new Hall(NO_LIMIT, NO_LIMIT);
    private final Hall kept = new Hall(MOST_CAME, MOST_WAITED);
    private final Notes notes = new Notes();
    private final Notes keptNotes = new Notes();
    private boolean hasImage;
    private final Text text = new Text();
    private final House[] houses = new House[HOUSES];
    private int houseCount;
    private final Sharing sharing = new Sharing();
    private final Acts acts = new Acts();
    private final Tape[] tapes = new Tape[TAPES];

    public BellsBelow() {
        for (int i = 0; i < HOUSES; i++) {
            houses[i] = new House();
        }
        for (int i = 0; i < TAPES; i++) {
            tapes[i] = new Tape();
        }
    }

    // ---- masters, houses, bells

    public int master(int kind, int v, int floor) {
        if (!within(kind, KINDS) || !within(floor, FLOORS)) {
            return NONE;
        }
        if (!within(v, 10)) {
            return BAD;
        }
        return now.many >= MASTERS ? FULL : now.comes(kind, v, floor);
    }

    public int of(int master, int what) {
        if (!isMaster(master)) {
            return NONE_LOW;
        }
        if (within(what - 10L, FLOORS)) {
            return now.cost(master, what - 10);
        }
        switch (what) {
            case 0: return now.kind[master];
            case 1: return now.v[master];
            case 2: return now.floor[master];
            case 3: return now.goal[master];
            case 4: return now.rests[master];
            case 5: return now.gone[master];
            case 6: return now.came[master];
            case 7: return now.isFree(master) ? 1 : 0;
            case 8: return standsBest(master);
            default: return NONE_LOW;
        }
    }

    public int set(int master, int what, int n) {
        if (!isMaster(master) || !within(what, 2)) {
            return NONE;
        }
        if (!within(n, what == 0 ? FLOORS : 100)) {
            return BAD;
        }
        return swapIn(what == 0 ? now.floor : now.rests, master, n);
    }

    public int away(int master, boolean is) {
        return isMaster(master) ? swapIn(now.gone, master, is ? 1 : 0) : NONE;
    }

    public int ring(int floor) {
        return within(floor, FLOORS) ? now.rings(floor) : NONE;
    }

    public int cross(int one, int other) {
        if (!within(one, FLOORS) || !within(other, FLOORS)) {
            return NONE;
        }
        if (one == other) {
            return BAD;
        }
        now.wires[other] = swapIn(now.wires, one, now.wires[other]);
        return now.wires[one];
    }

    public int row(int master, int part, int n) {
        if (!isMaster(master) || !within(part, PARTS)) {
            return NONE;
        }
        if (!within(n, 10)) {
            return BAD;
        }
        if (now.kind[master] != TOLD) {
            return STATE;
        }
        return swapIn(now.rows, master * PARTS + part, n);
    }

    public int feed(int sign) {
        if (!within(sign, 128)) {
            return BAD;
        }
        return text.length >= SIGNS ? FULL : text.adds(sign);
    }

    public int house() {
        if (houseCount >= HOUSES) {
            return FULL;
        }
        // A text with a FAULT spoils only this one, which nobody holds yet.
        House next = houses[houseCount];
        if (!text.makes(next)) {
            return -10 - text.place;
        }
        now.holding = next;
        houseCount++;
        return houseCount - 1;
    }

    public int told(int what) {
        if (within(what - 10L, FLOORS)) {
            return now.wires[what - 10];
        }
        if (within(what - 20L, FLOORS)) {
            return now.loop(what - 20);
        }
        switch (what) {
            case 0: return now.minute;
            case 1: return now.holding == null ? House.REST : now.holding.rest;
            case 2: return now.rung;
            case 3: return now.waited;
            case 4: return quiet();
            case 5: return now.crossings();
            case 6: return now.firstCrossed();
            default: return NONE;
        }
    }

    // ---- minutes

    public int pass(int n) {
        if (!within(n, MOST_PASSED + 1)) {
            return BAD;
        }
        if (now.minute + n > LAST_MINUTE) {
            return STATE;
        }
        now.goes(n);
        return now.minute;
    }

    public int on(int n, int what) {
        boolean isFloor = isMaster(what - 10L);
        boolean isGoal = isMaster(what - 20L);
        if (!within(what, 2) && !isFloor && !isGoal) {
            return NONE;
        }
        if (!within(n, MOST_PASSED + 1)) {
            return BAD;
        }
        trial.copies(now);
        trial.goes(n);
        if (isFloor) {
            return trial.floor[what - 10];
        }
        if (isGoal) {
            return trial.goal[what - 20];
        }
        return what == 0 ? trial.rung : trial.waited;
    }

    public int bell(int floor, int what) {
        if (!within(floor, FLOORS) || !within(what, 2)) {
            return NONE;
        }
        trial.copies(now);
        int rung = trial.rings(floor);
        return what == 0 ? minutesTo(rung) : whoGoesTo(rung);
    }

    public int shared(int what) {
        boolean isFloor = within(what - 10L, FLOORS);
        if (!within(what, 2) && !isFloor) {
            return NONE_LOW;
        }
        sharing.finds(now);
        if (isFloor) {
            return sharing.who[what - 10];
        }
        return what == 0 ? sharing.given : sharing.cost;
    }

    // ---- seen, odds

    public int see(int master, int n, int floor) {
        if (master == -1) {
            return notes.seen.empties();
        }
        if (!isMaster(master) || !within(floor, FLOORS)) {
            return NONE;
        }
        if (!within(n, MOST_SEEN + 1)) {
            return BAD;
        }
        return notes.seen.isFull() ? FULL : notes.seen.adds(master, floor, n);
    }

    public int from(int master) {
        if (!isMaster(master)) {
            return NONE;
        }
        int floors = 0;
        for (int f = 0; f < FLOORS; f++) {
            trial.copies(now);
            trial.floor[master] = f;
            if (allIsSeen()) {
                floors |= 1 << f;
            }
        }
        return floors;
    }

    public int can(int master, int what) {
        if (!isMaster(master) || !within(what, 2)) {
            return NONE;
        }
        int many = 0;
        int least = NOT;
        for (int v = 9; v >= 0; v--) {
            trial.copies(now);
            trial.v[master] = v;
            if (allIsSeen()) {
                many++;
                least = v;
            }
        }
        return what == 0 ? many : least;
    }

    public long odds(int master, int part) {
        if (!isMaster(master) || !within(part, 2)) {
            return NO;
        }
        int times = 0;
        for (int f = 0; f < FLOORS; f++) {
            trial.copies(now);
            trial.rings(f);
            trial.gives();
            if (trial.goal[master] != NOT) {
                times++;
            }
        }
        return lowest(times, FLOORS, part);
    }

    public long mean(int n, int part) {
        if (!within(n, MOST_PASSED + 1) || !within(part, 2) || now.many == 0) {
            return NO;
        }
        trial.copies(now);
        trial.goes(n);
        int came = 0;
        for (int p = 0; p < trial.many; p++) {
            came += trial.came[p];
        }
        return lowest(came, trial.many, part);
    }

    // ---- plans, books

    public int plan(int what, int n) {
        if (what == -1) {
            return notes.plan.empties();
        }
        if (!isPlannable(what, n)) {
            return NONE;
        }
        return notes.plan.isFull() ? FULL : notes.plan.adds(what, n, 0);
    }

    public int ends(int what) {
        if (!within(what, 2)) {
            return NONE;
        }
        trial.copies(now);
        for (int i = 0; i < notes.plan.many; i++) {
            carriesOut(notes.plan.first[i], notes.plan.second[i]);
        }
        return what == 0 ? trial.waited : trial.rung;
    }

    public int book(int master, int floor) {
        if (master == -1) {
            return notes.book.empties();
        }
        if (!isMaster(master) || !within(floor, FLOORS)) {
            return NONE;
        }
        return notes.book.isFull() ? FULL : notes.book.adds(master, floor, 0);
    }

    public int looked() {
        for (int i = 0; i < notes.book.many; i++) {
            if (now.floor[notes.book.first[i]] != notes.book.second[i]) {
                return i;
            }
        }
        return NOT;
    }

    // ---- judging, the image, acts, tapes

    public int judge(int tape, int i) {
        if (!within(tape, TAPES)) {
            return NONE;
        }
        Tape row = tapes[tape];
        if (row.sort != Tape.NO_ROW && row.sort != Tape.BYTES) {
            return CAST;
        }
        for (int f = 0; f < FLOORS; f++) {
            // A long, so that no place is so high that it comes round below 0.
            if (!row.has((long) i + f)) {
                return 100 + f;
            }
            if (row.items[i + f] != now.wires[f]) {
                return f;
            }
        }
        return NOT;
    }

    public int image() {
        kept.copies(now);
        keptNotes.copies(notes);
        hasImage = true;
        return now.many;
    }

    public int undo() {
        if (!hasImage) {
            return STATE;
        }
        now.copies(kept);
        notes.copies(keptNotes);
        return now.many;
    }

    public int act(int master, int act, int x) {
        acts.ran = 0;
        if (!isMaster(master) || !within(act, 3)) {
            return 0;
        }
        return acts.does(master, now.v[master], now.kind[master], act, x);
    }

    public int trace(int i) {
        return within(i, Math.min(acts.ran, acts.bodies.length)) ? acts.bodies[i] : NONE;
    }

    public int taken(int master, int k) {
        if (!within(k, KINDS)) {
            return BAD;
        }
        if (!isMaster(master)) {
            return NOTHING;
        }
        return isUnder(now.kind[master], k) ? now.kind[master] : CAST;
    }

    public int count(int what) {
        switch (what) {
            case 0: return now.many;
            case 1: return houseCount;
            case 2: return notes.seen.many;
            case 3: return notes.plan.many;
            case 4: return notes.book.many;
            case 5: return text.length;
            case 6: return acts.ran;
            default: return BAD;
        }
    }

    public int tape(int tape, int sort, int n) {
        if (!within(tape, TAPES)) {
            return NONE;
        }
        if (sort == Tape.NO_ROW) {
            tapes[tape].becomes(sort, 0);
            return 1;
        }
        if (!within(sort, 5) || n > ITEMS) {
            return BAD;
        }
        if (n < 0) {
            return SIZE;
        }
        tapes[tape].becomes(sort, n);
        return 1;
    }

    public int item(int tape, int i, long v) {
        if (!within(tape, TAPES)) {
            return NONE;
        }
        Tape row = tapes[tape];
        if (row.sort == Tape.NO_ROW) {
            return NOTHING;
        }
        if (!row.has(i)) {
            return PLACE;
        }
        row.items[i] = row.fitted(v);
        return 1;
    }

    public long read(int tape, int i) {
        return within(tape, TAPES) && tapes[tape].has(i) ? tapes[tape].items[i] : NO;
    }

    public int shift(int tape, int i, int other, int j, int n) {
        if (!within(tape, TAPES) || !within(other, TAPES)) {
            return NONE;
        }
        Tape from = tapes[tape];
        Tape to = tapes[other];
        if (from.sort == Tape.NO_ROW || to.sort == Tape.NO_ROW) {
            return NOTHING;
        }
        if (from.sort != to.sort) {
            return CAST;
        }
        if (!from.hasRun(i, n) || !to.hasRun(j, n)) {
            return PLACE;
        }
        System.arraycopy(from.items, i, to.items, j, n);
        return n;
    }

    // ---- what the calls share

    private static boolean within(long n, int size) {
        return n >= 0 && n < size;
    }

    private boolean isMaster(long p) {
        return within(p, now.many);
    }

    private static int swapIn(int[] cells, int place, int n) {
        int was = cells[place];
        cells[place] = n;
        return was;
    }

    private static void copy(int[] from, int[] to) {
        System.arraycopy(from, 0, to, 0, Math.min(from.length, to.length));
    }

    private static boolean isUnder(int kind, int k) {
        int at = kind;
        for (int i = 0; i < KINDS && at >= 0 && at != k; i++) {
            at = ABOVE[at];
        }
        return at == k;
    }

    private static long lowest(int above, int below, int part) {
        int a = below;
        int b = above;
        // Each round at least halves what two rounds before was left.
        for (int i = 0; i < 100 && b != 0; i++) {
            int left = a % b;
            a = b;
            b = left;
        }
        int top = part == 0 ? above : below;
        return a == 0 ? top : top / a;
    }

    private int quiet() {
        trial.copies(now);
        for (int n = 0; n <= MOST_PASSED; n++) {
            if (trial.rung == 0) {
                return n;
            }
            trial.goes(1);
        }
        return NOT;
    }

    private int minutesTo(int floor) {
        for (int n = 1; n <= MOST_PASSED; n++) {
            trial.goes(1);
            if (!trial.isRung(floor)) {
                return n;
            }
        }
        return NOT;
    }

    private int whoGoesTo(int floor) {
        trial.gives();
        return trial.whoseGoal(floor);
    }

    private int standsBest(int master) {
        int best = 0;
        int least = NO_LIMIT;
        for (int f = 0; f < FLOORS; f++) {
            trial.copies(now);
            trial.floor[master] = f;
            trial.goes(20);
            if (trial.waited < least) {
                least = trial.waited;
                best = f;
            }
        }
        return best;
    }

    private boolean allIsSeen() {
        for (int n = 0; n <= MOST_SEEN; n++) {
            if (!isSeenAfter(n)) {
                return false;
            }
            trial.goes(1);
        }
        return true;
    }

    private boolean isSeenAfter(int n) {
        Rows seen = notes.seen;
        for (int i = 0; i < seen.many; i++) {
            if (seen.third[i] == n && trial.floor[seen.first[i]] != seen.second[i]) {
                return false;
            }
        }
        return true;
    }

    private boolean isPlannable(int what, int n) {
        switch (what) {
            case 0: return true;
            case 1: return within(n, FLOORS);
            case 2: return isMaster(n);
            case 3: return isMaster(n);
            default: return false;
        }
    }

    private void carriesOut(int what, int n) {
        switch (what) {
            case 0:
                trial.goes(1);
                break;
            case 1:
                trial.rings(n);
                break;
            default:
                trial.gone[n] = what == 2 ? 1 : 0;
                break;
        }
    }

    /** All that minutes change, and what they go by: as it is, as it was, or on trial. */
    private static final class Hall {
        final int mostCame;
        final int mostWaited;
        final int[] kind = new int[MASTERS];
        final int[] v = new int[MASTERS];
        final int[] floor = new int[MASTERS];
        final int[] goal = new int[MASTERS];
        final int[] rests = new int[MASTERS];
        final int[] gone = new int[MASTERS];
        final int[] came = new int[MASTERS];
        final int[] rows = new int[MASTERS * PARTS];
        final int[] wires = new int[FLOORS];
        /** What the letters of House.LETTERS stand for, used again by each sum. */
        final int[] facts = new int[6];
        int many;
        int rung;
        int waited;
        int minute;
        House holding;

        Hall(int mostCame, int mostWaited) {
            this.mostCame = mostCame;
            this.mostWaited = mostWaited;
            for (int f = 0; f < FLOORS; f++) {
                wires[f] = f;
            }
        }

        void copies(Hall other) {
            copy(other.kind, kind);
            copy(other.v, v);
            copy(other.floor, floor);
            copy(other.goal, goal);
            copy(other.rests, rests);
            copy(other.gone, gone);
            copy(other.came, came);
            copy(other.rows, rows);
            copy(other.wires, wires);
            many = other.many;
            rung = other.rung;
            waited = other.waited;
            minute = other.minute;
            holding = other.holding;
        }

        int comes(int itsKind, int itsV, int itsFloor) {
            int p = many;
            if (p >= MASTERS) {
                return FULL;
            }
            kind[p] = itsKind;
            v[p] = itsV;
            floor[p] = itsFloor;
            goal[p] = NOT;
            // All else is 0 still: copies() brings back the places behind the last one, too.
            many++;
            return p;
        }

        int rings(int f) {
            rung |= 1 << wires[f];
            return wires[f];
        }

        boolean isRung(int f) {
            return (rung >> f & 1) != 0;
        }

        boolean isFree(int p) {
            return gone[p] == 0 && goal[p] == NOT && rests[p] == 0;
        }

        int whoseGoal(int f) {
            for (int p = 0; p < many; p++) {
                if (goal[p] == f) {
                    return p;
                }
            }
            return NOT;
        }

        boolean waitsFor(int f) {
            return isRung(f) && whoseGoal(f) == NOT;
        }

        void goes(int n) {
            for (int i = 0; i < n; i++) {
                gives();
                for (int p = 0; p < many; p++) {
                    if (gone[p] == 0) {
                        moves(p);
                    }
                }
                waited = Math.min(mostWaited, waited + Integer.bitCount(rung));
                minute++;
            }
        }

        void gives() {
            for (int f = 0; f < FLOORS; f++) {
                if (!waitsFor(f)) {
                    continue;
                }
                int p = cheapest(f);
                if (p == NOT) {
                    // Nobody is FREE, so nobody is for the FLOORS behind it.
                    return;
                }
                goal[p] = f;
            }
        }

        private int cheapest(int f) {
            int best = NOT;
            int least = 0;
            for (int p = 0; p < many; p++) {
                if (isFree(p)) {
                    int cost = cost(p, f);
                    if (best == NOT || cost < least) {
                        best = p;
                        least = cost;
                    }
                }
            }
            return best;
        }

        private void moves(int p) {
            if (goal[p] == NOT) {
                rests[p] = Math.max(0, rests[p] - 1);
                return;
            }
            floor[p] += Integer.compare(goal[p], floor[p]);
            if (floor[p] == goal[p]) {
                came[p] = Math.min(mostCame, came[p] + 1);
                rung &= ~(1 << goal[p]);
                goal[p] = NOT;
                rests[p] = holding == null ? House.REST : holding.rest;
            }
        }

        int cost(int p, int f) {
            int sum = sum(p, f);
            int ifLower = f < floor[p] ? v[p] : 0;
            switch (kind[p]) {
                case DUKE: return sum + came[p];
                case LADY: return sum / 2;
                case PEER: return sum + ifLower;
                case EARL: return sum + came[p] + minute % 2 * 20;
                case ROSE: return sum / 2 - v[p];
                case TOLD: return sum + ifLower + rows[p * PARTS + minute % PARTS];
                default: return sum;
            }
        }

        private int sum(int p, int f) {
            int apart = Math.abs(floor[p] - f);
            if (holding == null) {
                return 2 * apart;
            }
            facts[0] = p;
            facts[1] = kind[p];
            facts[2] = v[p];
            facts[3] = f;
            facts[4] = apart;
            facts[5] = minute % 10;
            return 2 * apart + holding.weighs(facts);
        }

        int loop(int f) {
            int steps = 1;
            int at = wires[f];
            while (at != f && steps < FLOORS) {
                at = wires[at];
                steps++;
            }
            return steps;
        }

        /** A loop takes one change less than it has floors: one for each but its lowest. */
        int crossings() {
            int times = 0;
            for (int f = 0; f < FLOORS; f++) {
                int at = wires[f];
                for (int i = 0; i < FLOORS && at > f; i++) {
                    at = wires[at];
                }
                if (at != f) {
                    times++;
                }
            }
            return times;
        }

        int firstCrossed() {
            for (int f = 0; f < FLOORS; f++) {
                if (wires[f] != f) {
                    return f;
                }
            }
            return NOT;
        }
    }

    /** A HOUSE as one run of steps, each test ahead of what joins it, its n behind each E. */
    private static final class House {
        static final int REST = 2;
        static final String LETTERS = "pkvfam", RELATIONS = "<=>";
        /** Steps below this are tests: letter, relation and number in one. */
        static final int TESTS = 1800;
        static final int NEGATES = 1800, AND = 1801, OR = 1802, SLOW = 1900, KEEN = 2000;

        // Each step stands for a sign of the text at least.
        final int[] steps = new int[SIGNS];
        int used;
        int rest;

        void empties() {
            used = 0;
            rest = REST;
        }

        void adds(int step) {
            if (used < steps.length) {
                steps[used] = step;
                used++;
            }
        }

        int weighs(int[] facts) {
            int weight = 0;
            // The truths not yet joined, as bits, the latest the lowest.
            int truths = 0;
            for (int i = 0; i < used; i++) {
                int step = steps[i];
                int latest = truths & 1;
                if (step < TESTS) {
                    int fact = facts[step / 300];
                    int n = step % 100;
                    int relation = fact < n ? 0 : fact == n ? 1 : 2;
                    truths = truths << 1 | (relation == step / 100 % 3 ? 1 : 0);
                } else if (step == NEGATES) {
                    truths ^= 1;
                } else if (step == AND) {
                    truths = truths >> 1 & (latest | ~1);
                } else if (step == OR) {
                    truths = truths >> 1 | latest;
                } else {
                    weight += latest * (step < KEEN ? step - SLOW : KEEN - step);
                    truths = 0;
                }
            }
            return weight;
        }
    }

    /** THE TEXT, and how a HOUSE is read from it; place stays at the FAULT. */
    private static final class Text {
        private static final int CLAUSES = 10, MOST_WITHIN = 4;

        final byte[] signs = new byte[SIGNS];
        int length;
        int place;
        private int end;
        private House house;

        int adds(int sign) {
            if (length < signs.length) {
                signs[length] = (byte) sign;
                length++;
            }
            return length;
        }

        /** Empties the text, whether it is a HOUSE or not. */
        boolean makes(House made) {
            end = length;
            length = 0;
            place = 0;
            house = made;
            made.empties();
            for (int i = 1; i <= CLAUSES; i++) {
                if (!clause()) {
                    return false;
                }
                if (place == end) {
                    return true;
                }
                if (i == CLAUSES || !takes(';')) {
                    return false;
                }
            }
            return false;
        }

        private boolean clause() {
            if (place < end && signs[place] == 'r') {
                return rest();
            }
            boolean keen = place < end && signs[place] == 'k';
            if (!takesAll(keen ? "keen " : "slow ")) {
                return false;
            }
            int n = number();
            if (n < 0 || !takes(' ') || !anyHolds(0)) {
                return false;
            }
            house.adds((keen ? House.KEEN : House.SLOW) + n);
            return true;
        }

        private boolean rest() {
            if (!takesAll("rest ")) {
                return false;
            }
            int n = number();
            if (n < 0) {
                return false;
            }
            house.rest = n;
            return true;
        }

        private boolean anyHolds(int depth) {
            if (!allHold(depth)) {
                return false;
            }
            for (int i = 0; i < SIGNS && takes('|'); i++) {
                if (!allHold(depth)) {
                    return false;
                }
                house.adds(House.OR);
            }
            return true;
        }

        private boolean allHold(int depth) {
            if (!oneHolds(depth)) {
                return false;
            }
            for (int i = 0; i < SIGNS && takes('&'); i++) {
                if (!oneHolds(depth)) {
                    return false;
                }
                house.adds(House.AND);
            }
            return true;
        }

        /** depth: how many ( and ! this one is within. */
        private boolean oneHolds(int depth) {
            if (depth < MOST_WITHIN && takes('!')) {
                boolean is = oneHolds(depth + 1);
                house.adds(House.NEGATES);
                return is;
            }
            if (depth < MOST_WITHIN && takes('(')) {
                return anyHolds(depth + 1) && takes(')');
            }
            return test();
        }

        private boolean test() {
            int letter = takesOne(House.LETTERS);
            if (letter < 0) {
                return false;
            }
            int relation = takesOne(House.RELATIONS);
            if (relation < 0) {
                return false;
            }
            int n = number();
            if (n < 0) {
                return false;
            }
            house.adds(letter * 300 + relation * 100 + n);
            return true;
        }

        /** A number of 1 or 2 digits; -1: there is none. */
        private int number() {
            int n = -1;
            for (int i = 0; i < 2 && place < end; i++) {
                int digit = signs[place] - '0';
                if (digit < 0 || digit > 9) {
                    return n;
                }
                n = i == 0 ? digit : n * 10 + digit;
                place++;
            }
            return n;
        }

        private boolean takes(char sign) {
            if (place >= end || signs[place] != sign) {
                return false;
            }
            place++;
            return true;
        }

        private boolean takesAll(String word) {
            for (int i = 0; i < word.length(); i++) {
                if (!takes(word.charAt(i))) {
                    return false;
                }
            }
            return true;
        }

        /** Which of these signs is next, by its place among them; -1: none. */
        private int takesOne(String among) {
            int which = place < end ? among.indexOf((char) signs[place]) : -1;
            if (which >= 0) {
                place++;
            }
            return which;
        }
    }

    /** SHARED: from each floor on, the best for each set of masters given ahead of it. */
    private static final class Sharing {
        private static final int SETS = 64;
        /** More than the COST of all together can be, so that more given always is better. */
        private static final int GIVEN = 1000000;

        final int[] who = new int[FLOORS];
        int given;
        int cost;
        private final int[] open = new int[FLOORS];
        private final int[] prices = new int[FLOORS * MASTERS];
        private final int[] worth = new int[(FLOORS + 1) * SETS];

        void finds(Hall hall) {
            for (int f = FLOORS - 1; f >= 0; f--) {
                asks(hall, f);
                values(f);
            }
            given = 0;
            cost = 0;
            int used = 0;
            for (int f = 0; f < FLOORS; f++) {
                int p = choice(f, used);
                who[f] = p;
                if (p != NOT) {
                    used |= 1 << p;
                    given++;
                    cost += prices[f * MASTERS + p];
                }
            }
        }

        private void asks(Hall hall, int f) {
            open[f] = 0;
            if (!hall.waitsFor(f)) {
                return;
            }
            for (int p = 0; p < hall.many; p++) {
                if (hall.isFree(p)) {
                    open[f] |= 1 << p;
                    prices[f * MASTERS + p] = hall.cost(p, f);
                }
            }
        }

        private void values(int f) {
            for (int used = 0; used < SETS; used++) {
                int best = worth[(f + 1) * SETS + used];
                for (int p = 0; p < MASTERS; p++) {
                    if (isOpen(f, p, used)) {
                        best = Math.max(best, worthBy(f, p, used));
                    }
                }
                worth[f * SETS + used] = best;
            }
        }

        private int choice(int f, int used) {
            for (int p = 0; p < MASTERS; p++) {
                if (isOpen(f, p, used) && worthBy(f, p, used) == worth[f * SETS + used]) {
                    return p;
                }
            }
            return NOT;
        }

        private boolean isOpen(int f, int p, int used) {
            return ((open[f] & ~used) >> p & 1) != 0;
        }

        private int worthBy(int f, int p, int used) {
            int behind = worth[(f + 1) * SETS + (used | 1 << p)];
            return behind + GIVEN - prices[f * MASTERS + p];
        }
    }

    /** Rows told by hand, of up to three numbers each. */
    private static final class Rows {
        final int[] first;
        final int[] second;
        final int[] third;
        int many;

        Rows(int most) {
            int size = Math.max(0, most);
            first = new int[size];
            second = new int[size];
            third = new int[size];
        }

        boolean isFull() {
            return many >= first.length;
        }

        int adds(int a, int b, int c) {
            if (!isFull()) {
                first[many] = a;
                second[many] = b;
                third[many] = c;
                many++;
            }
            return many;
        }

        int empties() {
            many = 0;
            return 0;
        }

        void copies(Rows other) {
            copy(other.first, first);
            copy(other.second, second);
            copy(other.third, third);
            many = other.many;
        }
    }

    /** What is told by hand and kept with the IMAGE. */
    private static final class Notes {
        /** MASTER, FLOOR, MINUTES. */
        final Rows seen = new Rows(5);
        /** What goes, n. */
        final Rows plan = new Rows(10);
        /** MASTER, FLOOR. */
        final Rows book = new Rows(8);

        void copies(Notes other) {
            seen.copies(other.seen);
            plan.copies(other.plan);
            book.copies(other.book);
        }
    }

    /** The BODIES of the acts, and THE TRACE of the latest. */
    private static final class Acts {
        private static final int CLIMBS = 0, YAWNS = 1, TELLS = 2, DEEPEST = 40;
        /** By KIND, each its climbs, yawns, tells; 0: it has none of its own. */
        private static final int[] BODIES = {
            10, 11, 12, 0, 20, 0, 30, 0, 0, 0, 0, 40, 50, 51, 0, 0, 0, 60, 71, 70, 0
        };

        final int[] bodies = new int[20];
        int ran;
        private int i;
        private int v;
        private int kind;

        int does(int master, int itsV, int itsKind, int act, int x) {
            i = master;
            v = itsV;
            kind = itsKind;
            return body(kind, act, x, 0);
        }

        private int body(int from, int act, int x, int depth) {
            if (from < 0 || depth > DEEPEST) {
                return 0;
            }
            int at = from;
            for (int up = 0; up < KINDS && ABOVE[at] >= 0 && BODIES[at * 3 + act] == 0; up++) {
                at = ABOVE[at];
            }
            int above = ABOVE[at];
            int deeper = depth + 1;
            begins(BODIES[at * 3 + act]);
            switch (BODIES[at * 3 + act]) {
                case 10: return x + i;
                case 11: return body(kind, CLIMBS, x, deeper) - v;
                case 12: return body(kind, YAWNS, x, deeper) * 2;
                case 20: return body(above, YAWNS, x, deeper) ^ 6;
                case 30: return body(above, CLIMBS, x * 3, deeper);
                case 40: return body(above, TELLS, x, deeper) + body(kind, YAWNS, 1, deeper);
                case 50: return -body(above, CLIMBS, x, deeper);
                case 51: return body(above, YAWNS, x + 1, deeper);
                case 60: return body(above, TELLS, x - i, deeper);
                case 70: return body(above, YAWNS, x, deeper) + body(above, CLIMBS, 2, deeper);
                case 71: return body(above, CLIMBS, x, deeper) ^ v;
                default: return 0;
            }
        }

        private void begins(int number) {
            if (ran < bodies.length) {
                bodies[ran] = number;
            }
            ran++;
        }
    }

    /** A TAPE: its items as longs, each fitted to its sort, in a row that is used again. */
    private static final class Tape {
        static final int NO_ROW = -1, BYTES = 0;
        private static final int SHORTS = 1, INTS = 2, LONGS = 3;

        final long[] items = new long[ITEMS];
        int sort = NO_ROW;
        private int size;

        void becomes(int itsSort, int n) {
            sort = itsSort;
            size = n;
            for (int k = 0; k < ITEMS; k++) {
                items[k] = 0;
            }
        }

        boolean has(long k) {
            return k >= 0 && k < size;
        }

        boolean hasRun(int k, int n) {
            return n >= 0 && k >= 0 && k <= size - n;
        }

        long fitted(long n) {
            switch (sort) {
                case BYTES: return (byte) n;
                case SHORTS: return (short) n;
                case INTS: return (int) n;
                case LONGS: return n;
                default: return n != 0 ? 1 : 0;
            }
        }
    }
}
