import java.util.ArrayList;
import java.util.Arrays;
import java.util.List;
import java.util.TreeSet;
import java.util.regex.Matcher;
import java.util.regex.Pattern;

/**
 * The document told once more, as plainly as the Java library lets one: objects and lists made
 * anew, every way tried, texts read by a pattern. Slow, and shares nothing with BellsBelow.
 */
final class Plain {
    static final long NO = Long.MIN_VALUE;

    // ---- kinds, as classes that really stand under one another

    static class Master {
        int i, v, floor, rests, came;
        Integer goal;
        boolean away;
        int[] row = new int[4];

        int kind() { return 0; }

        Master fresh() { return new Master(); }

        final Master copy() {
            Master m = fresh();
            m.i = i;
            m.v = v;
            m.floor = floor;
            m.rests = rests;
            m.came = came;
            m.goal = goal;
            m.away = away;
            m.row = row.clone();
            return m;
        }

        boolean free() { return !away && goal == null && rests == 0; }

        int cost(World w, int f) { return w.sum(this, f); }

        int climbs(Plain p, int x) { p.ran.add(10); return x + i; }

        int yawns(Plain p, int x) { p.ran.add(11); return climbs(p, x) - v; }

        int tells(Plain p, int x) { p.ran.add(12); return yawns(p, x) * 2; }
    }

    static class Duke extends Master {
        @Override int kind() { return 1; }
        @Override Master fresh() { return new Duke(); }
        @Override int cost(World w, int f) { return super.cost(w, f) + came; }
        @Override int yawns(Plain p, int x) { p.ran.add(20); return super.yawns(p, x) ^ 6; }
    }

    static class Lady extends Master {
        @Override int kind() { return 2; }
        @Override Master fresh() { return new Lady(); }
        @Override int cost(World w, int f) {
            int sum = super.cost(w, f);
            return sum < 0 ? -(-sum / 2) : sum / 2;
        }
        @Override int climbs(Plain p, int x) { p.ran.add(30); return super.climbs(p, x * 3); }
    }

    static class Peer extends Master {
        @Override int kind() { return 3; }
        @Override Master fresh() { return new Peer(); }
        @Override int cost(World w, int f) { return super.cost(w, f) + (f < floor ? v : 0); }
        @Override int tells(Plain p, int x) {
            p.ran.add(40);
            int told = super.tells(p, x);
            return told + yawns(p, 1);
        }
    }

    static final class Earl extends Duke {
        @Override int kind() { return 4; }
        @Override Master fresh() { return new Earl(); }
        @Override int cost(World w, int f) {
            return super.cost(w, f) + (w.minute % 2 != 0 ? 20 : 0);
        }
        @Override int climbs(Plain p, int x) { p.ran.add(50); return -super.climbs(p, x); }
        @Override int yawns(Plain p, int x) { p.ran.add(51); return super.yawns(p, x + 1); }
    }

    static final class Rose extends Lady {
        @Override int kind() { return 5; }
        @Override Master fresh() { return new Rose(); }
        @Override int cost(World w, int f) { return super.cost(w, f) - v; }
        @Override int tells(Plain p, int x) { p.ran.add(60); return super.tells(p, x - i); }
    }

    static final class Told extends Peer {
        @Override int kind() { return 6; }
        @Override Master fresh() { return new Told(); }
        @Override int cost(World w, int f) { return super.cost(w, f) + row[w.minute % 4]; }
        @Override int yawns(Plain p, int x) {
            p.ran.add(70);
            int yawned = super.yawns(p, x);
            return yawned + super.climbs(p, 2);
        }
        @Override int climbs(Plain p, int x) { p.ran.add(71); return super.climbs(p, x) ^ v; }
    }

    static Master born(int kind) {
        switch (kind) {
            case 0: return new Master();
            case 1: return new Duke();
            case 2: return new Lady();
            case 3: return new Peer();
            case 4: return new Earl();
            case 5: return new Rose();
            default: return new Told();
        }
    }

    // ---- how all is

    static final class World {
        List<Master> masters = new ArrayList<>();
        List<Integer> wires = new ArrayList<>(List.of(0, 1, 2, 3, 4, 5, 6, 7, 8, 9));
        TreeSet<Integer> rung = new TreeSet<>();
        int waited, minute;
        String house;
        List<int[]> seen = new ArrayList<>(), plan = new ArrayList<>(), book = new ArrayList<>();

        World copy() {
            World w = new World();
            for (Master m : masters) {
                w.masters.add(m.copy());
            }
            w.wires = new ArrayList<>(wires);
            w.rung = new TreeSet<>(rung);
            w.waited = waited;
            w.minute = minute;
            w.house = house;
            w.seen = new ArrayList<>(seen);
            w.plan = new ArrayList<>(plan);
            w.book = new ArrayList<>(book);
            return w;
        }

        World after(int minutes) {
            World w = copy();
            for (int n = 0; n < minutes; n++) {
                w.minuteGoes(false);
            }
            return w;
        }

        int bits() {
            int all = 0;
            for (int f : rung) {
                all |= 1 << f;
            }
            return all;
        }

        int rest() {
            int n = 2;
            if (house != null) {
                for (String clause : house.split(";")) {
                    if (clause.startsWith("rest")) {
                        n = Integer.parseInt(clause.substring(5));
                    }
                }
            }
            return n;
        }

        int sum(Master m, int f) {
            int sum = 2 * Math.abs(m.floor - f);
            if (house == null) {
                return sum;
            }
            for (String clause : house.split(";")) {
                String[] parts = clause.split(" ");
                if (parts.length == 3 && new Truth(this, m, f, parts[2]).holds()) {
                    int n = Integer.parseInt(parts[1]);
                    sum += parts[0].equals("slow") ? n : -n;
                }
            }
            return sum;
        }

        boolean wanted(int f) {
            return rung.contains(f) && masters.stream().noneMatch(m -> m.goal != null && m.goal == f);
        }

        void give() {
            for (int f = 0; f <= 9; f++) {
                if (!wanted(f)) {
                    continue;
                }
                final int floor = f;
                masters.stream().filter(Master::free)
                    .min((a, b) -> Integer.compare(a.cost(this, floor), b.cost(this, floor)))
                    .ifPresent(m -> m.goal = floor);
            }
        }

        void minuteGoes(boolean limits) {
            give();
            for (Master m : masters) {
                if (m.away) {
                    continue;
                }
                if (m.goal == null) {
                    if (m.rests > 0) {
                        m.rests--;
                    }
                    continue;
                }
                if (m.floor > m.goal) {
                    m.floor--;
                } else if (m.floor < m.goal) {
                    m.floor++;
                }
                if (m.goal == m.floor) {
                    m.came++;
                    if (limits && m.came > 9999) {
                        m.came = 9999;
                    }
                    rung.remove(m.goal);
                    m.goal = null;
                    m.rests = rest();
                }
            }
            waited += rung.size();
            if (limits && waited > 999999) {
                waited = 999999;
            }
            minute++;
        }

        boolean seenIsSo() {
            for (int[] row : seen) {
                if (after(row[1]).masters.get(row[0]).floor != row[2]) {
                    return false;
                }
            }
            return true;
        }
    }

    /** An E read from its text each time it is asked. */
    static final class Truth {
        private final World w;
        private final Master m;
        private final int f;
        private final String text;
        private int at;

        Truth(World w, Master m, int f, String text) {
            this.w = w;
            this.m = m;
            this.f = f;
            this.text = text;
        }

        boolean holds() {
            boolean all = term();
            while (at < text.length() && text.charAt(at) == '|') {
                at++;
                boolean one = term();
                all = all || one;
            }
            return all;
        }

        private boolean term() {
            boolean all = factor();
            while (at < text.length() && text.charAt(at) == '&') {
                at++;
                boolean one = factor();
                all = all && one;
            }
            return all;
        }

        private boolean factor() {
            char c = text.charAt(at);
            at++;
            if (c == '!') {
                return !factor();
            }
            if (c == '(') {
                boolean in = holds();
                at++;
                return in;
            }
            int n = fact(c);
            char relation = text.charAt(at);
            at++;
            int from = at;
            while (at < text.length() && Character.isDigit(text.charAt(at))) {
                at++;
            }
            int than = Integer.parseInt(text.substring(from, at));
            return relation == '<' ? n < than : relation == '>' ? n > than : n == than;
        }

        private int fact(char c) {
            switch (c) {
                case 'p': return m.i;
                case 'k': return m.kind();
                case 'v': return m.v;
                case 'f': return f;
                case 'a': return Math.abs(f - m.floor);
                default: return w.minute % 10;
            }
        }
    }

    // ---- what a HOUSE may be, as one pattern

    private static final Pattern HOUSE = Pattern.compile(pattern());

    private static String pattern() {
        String test = "[pkvfam][<=>][0-9][0-9]?";
        String one = test;
        String any = "";
        for (int depth = 4; depth >= 0; depth--) {
            if (depth < 4) {
                one = "(?:" + test + "|!" + one + "|\\(" + any + "\\))";
            }
            String all = one + "(?:&" + one + ")*+";
            any = all + "(?:\\|" + all + ")*+";
        }
        String clause = "(?:(?:slow|keen) [0-9][0-9]? " + any + "|rest [0-9][0-9]?)";
        return clause + "(?:;" + clause + "){0,9}+";
    }

    static boolean isHouse(String text) {
        return HOUSE.matcher(text).matches();
    }

    /** Whether a HOUSE begins so: all was taken, or the pattern would have taken more. */
    static boolean begins(String text) {
        Matcher m = HOUSE.matcher(text);
        return m.matches() || m.hitEnd();
    }

    static int fault(String text) {
        for (int n = 1; n <= text.length(); n++) {
            if (!begins(text.substring(0, n))) {
                return n - 1;
            }
        }
        return text.length();
    }

    // ---- the face

    private World now = new World();
    private World kept;
    private final StringBuilder text = new StringBuilder();
    private final List<String> houses = new ArrayList<>();
    private final List<Integer> ran = new ArrayList<>();
    private final Object[] tapes = new Object[6];

    private static boolean in(int n, int low, int high) {
        return n >= low && n <= high;
    }

    private boolean is(int p) {
        return in(p, 0, now.masters.size() - 1);
    }

    int master(int kind, int v, int floor) {
        if (!in(kind, 0, 6) || !in(floor, 0, 9)) return -1;
        if (!in(v, 0, 9)) return -2;
        if (now.masters.size() == 6) return -4;
        Master m = born(kind);
        m.i = now.masters.size();
        m.v = v;
        m.floor = floor;
        now.masters.add(m);
        return m.i;
    }

    int of(int p, int what) {
        if (!is(p) || !in(what, 0, 8) && !in(what, 10, 19)) return -10001;
        Master m = now.masters.get(p);
        if (what >= 10) return m.cost(now, what - 10);
        int best = 0;
        int least = Integer.MAX_VALUE;
        if (what == 8) {
            for (int f = 0; f <= 9; f++) {
                World w = now.copy();
                w.masters.get(p).floor = f;
                int waited = w.after(20).waited;
                if (waited < least) {
                    least = waited;
                    best = f;
                }
            }
        }
        return List.of(m.kind(), m.v, m.floor, m.goal == null ? -5 : m.goal, m.rests,
            m.away ? 1 : 0, m.came, m.free() ? 1 : 0, best).get(what);
    }

    int set(int p, int what, int n) {
        if (!is(p) || !in(what, 0, 1)) return -1;
        if (!in(n, 0, what == 0 ? 9 : 99)) return -2;
        Master m = now.masters.get(p);
        int was = what == 0 ? m.floor : m.rests;
        if (what == 0) m.floor = n; else m.rests = n;
        return was;
    }

    int away(int p, boolean is) {
        if (!is(p)) return -1;
        boolean was = now.masters.get(p).away;
        now.masters.get(p).away = is;
        return was ? 1 : 0;
    }

    int ring(int f) {
        if (!in(f, 0, 9)) return -1;
        now.rung.add(now.wires.get(f));
        return now.wires.get(f);
    }

    int cross(int a, int b) {
        if (!in(a, 0, 9) || !in(b, 0, 9)) return -1;
        if (a == b) return -2;
        java.util.Collections.swap(now.wires, a, b);
        return now.wires.get(a);
    }

    int row(int p, int part, int n) {
        if (!is(p) || !in(part, 0, 3)) return -1;
        if (!in(n, 0, 9)) return -2;
        Master m = now.masters.get(p);
        if (!(m instanceof Told)) return -3;
        int was = m.row[part];
        m.row[part] = n;
        return was;
    }

    int feed(int sign) {
        if (!in(sign, 0, 127)) return -2;
        if (text.length() == 100) return -4;
        return text.append((char) sign).length();
    }

    int house() {
        if (houses.size() == 6) return -4;
        String whole = text.toString();
        text.setLength(0);
        if (!isHouse(whole)) return -10 - fault(whole);
        houses.add(whole);
        now.house = whole;
        return houses.size() - 1;
    }

    private int loop(int f) {
        int steps = 1;
        for (int at = now.wires.get(f); at != f; at = now.wires.get(at)) steps++;
        return steps;
    }

    /** Puts one wire right after the other, which never takes more changes than it must. */
    private int changes() {
        List<Integer> w = new ArrayList<>(now.wires);
        int times = 0;
        for (int f = 0; f <= 9; f++) {
            if (w.get(f) != f) {
                java.util.Collections.swap(w, f, w.indexOf(f));
                times++;
            }
        }
        return times;
    }

    int told(int what) {
        if (in(what, 10, 19)) return now.wires.get(what - 10);
        if (in(what, 20, 29)) return loop(what - 20);
        switch (what) {
            case 0: return now.minute;
            case 1: return now.rest();
            case 2: return now.bits();
            case 3: return now.waited;
            case 4:
                for (int n = 0; n <= 60; n++) {
                    if (now.after(n).rung.isEmpty()) return n;
                }
                return -5;
            case 5: return changes();
            case 6:
                for (int f = 0; f <= 9; f++) {
                    if (now.wires.get(f) != f) return f;
                }
                return -5;
            default: return -1;
        }
    }

    int pass(int n) {
        if (!in(n, 0, 60)) return -2;
        if (now.minute + n > 9999) return -3;
        for (int i = 0; i < n; i++) now.minuteGoes(true);
        return now.minute;
    }

    int on(int n, int what) {
        boolean floor = what >= 10 && is(what - 10);
        boolean goal = what >= 20 && is(what - 20);
        if (what != 0 && what != 1 && !floor && !goal) return -1;
        if (!in(n, 0, 60)) return -2;
        World w = now.after(n);
        if (floor) return w.masters.get(what - 10).floor;
        if (goal) {
            Integer g = w.masters.get(what - 20).goal;
            return g == null ? -5 : g;
        }
        return what == 0 ? w.bits() : w.waited;
    }

    int bell(int f, int what) {
        if (!in(f, 0, 9) || !in(what, 0, 1)) return -1;
        int to = now.wires.get(f);
        World w = now.copy();
        w.rung.add(to);
        if (what == 0) {
            for (int n = 1; n <= 60; n++) {
                if (!w.after(n).rung.contains(to)) return n;
            }
            return -5;
        }
        w.give();
        for (Master m : w.masters) {
            if (m.goal != null && m.goal == to) return m.i;
        }
        return -5;
    }

    /** Count, COST and the row of the best way met so far. */
    private int bestCount, bestCost;
    private int[] bestRow;
    private final int[][] prices = new int[10][6];

    private void tryAll(int f, int[] row, int many, int cost) {
        if (f == 10) {
            boolean better = bestRow == null || many > bestCount
                || many == bestCount && cost < bestCost
                || many == bestCount && cost == bestCost && Arrays.compare(row, bestRow) < 0;
            if (better) {
                bestCount = many;
                bestCost = cost;
                bestRow = row.clone();
            }
            return;
        }
        row[f] = 9;
        tryAll(f + 1, row, many, cost);
        if (!now.wanted(f)) return;
        for (Master m : now.masters) {
            boolean used = false;
            for (int g = 0; g < f; g++) used |= row[g] == m.i;
            if (m.free() && !used) {
                row[f] = m.i;
                tryAll(f + 1, row, many + 1, cost + prices[f][m.i]);
            }
        }
        row[f] = 9;
    }

    int shared(int what) {
        if (what != 0 && what != 1 && !in(what, 10, 19)) return -10001;
        bestRow = null;
        for (Master m : now.masters) {
            for (int f = 0; f <= 9; f++) prices[f][m.i] = m.cost(now, f);
        }
        tryAll(0, new int[10], 0, 0);
        if (what >= 10) return bestRow[what - 10] == 9 ? -5 : bestRow[what - 10];
        return what == 0 ? bestCount : bestCost;
    }

    int see(int p, int n, int f) {
        if (p == -1) {
            now.seen.clear();
            return 0;
        }
        if (!is(p) || !in(f, 0, 9)) return -1;
        if (!in(n, 0, 20)) return -2;
        if (now.seen.size() == 5) return -4;
        now.seen.add(new int[] {p, n, f});
        return now.seen.size();
    }

    int from(int p) {
        if (!is(p)) return -1;
        int bits = 0;
        for (int f = 0; f <= 9; f++) {
            World w = now.copy();
            w.masters.get(p).floor = f;
            if (w.seenIsSo()) bits += 1 << f;
        }
        return bits;
    }

    int can(int p, int what) {
        if (!is(p) || !in(what, 0, 1)) return -1;
        TreeSet<Integer> all = new TreeSet<>();
        for (int v = 0; v <= 9; v++) {
            World w = now.copy();
            w.masters.get(p).v = v;
            if (w.seenIsSo()) all.add(v);
        }
        return what == 0 ? all.size() : all.isEmpty() ? -5 : all.first();
    }

    private static long fraction(long above, long below, int part) {
        for (long d = below; d > 1; d--) {
            if (above % d == 0 && below % d == 0) return (part == 0 ? above : below) / d;
        }
        return part == 0 ? above : below;
    }

    long odds(int p, int part) {
        if (!is(p) || !in(part, 0, 1)) return NO;
        int times = 0;
        for (int f = 0; f <= 9; f++) {
            World w = now.copy();
            w.rung.add(now.wires.get(f));
            w.give();
            if (w.masters.get(p).goal != null) times++;
        }
        return fraction(times, 10, part);
    }

    long mean(int n, int part) {
        if (!in(n, 0, 60) || !in(part, 0, 1) || now.masters.isEmpty()) return NO;
        long came = now.after(n).masters.stream().mapToLong(m -> m.came).sum();
        return fraction(came, now.masters.size(), part);
    }

    int plan(int what, int n) {
        if (what == -1) {
            now.plan.clear();
            return 0;
        }
        if (!in(what, 0, 3)) return -1;
        if (what == 1 && !in(n, 0, 9)) return -1;
        if (what >= 2 && !is(n)) return -1;
        if (now.plan.size() == 10) return -4;
        now.plan.add(new int[] {what, n});
        return now.plan.size();
    }

    int ends(int what) {
        if (!in(what, 0, 1)) return -1;
        World w = now.copy();
        for (int[] row : now.plan) {
            if (row[0] == 0) w.minuteGoes(false);
            if (row[0] == 1) w.rung.add(w.wires.get(row[1]));
            if (row[0] >= 2) w.masters.get(row[1]).away = row[0] == 2;
        }
        return what == 0 ? w.waited : w.bits();
    }

    int book(int p, int f) {
        if (p == -1) {
            now.book.clear();
            return 0;
        }
        if (!is(p) || !in(f, 0, 9)) return -1;
        if (now.book.size() == 8) return -4;
        now.book.add(new int[] {p, f});
        return now.book.size();
    }

    int looked() {
        for (int i = 0; i < now.book.size(); i++) {
            int[] row = now.book.get(i);
            if (now.masters.get(row[0]).floor != row[1]) return i;
        }
        return -5;
    }

    int judge(int t, int i) {
        if (!in(t, 0, 5)) return -1;
        if (tapes[t] == null) return 100;
        if (!(tapes[t] instanceof byte[])) return -12;
        byte[] bytes = (byte[]) tapes[t];
        if (i < 0 || i > bytes.length) return 100;
        byte[] rest = Arrays.copyOfRange(bytes, i, bytes.length);
        for (int f = 0; f <= 9; f++) {
            if (f == rest.length) return 100 + f;
            if (rest[f] != now.wires.get(f)) return f;
        }
        return -5;
    }

    int image() {
        kept = now.copy();
        return kept.masters.size();
    }

    int undo() {
        if (kept == null) return -3;
        now = kept.copy();
        return now.masters.size();
    }

    int act(int p, int act, int x) {
        ran.clear();
        if (!is(p) || !in(act, 0, 2)) return 0;
        Master m = now.masters.get(p);
        return act == 0 ? m.climbs(this, x) : act == 1 ? m.yawns(this, x) : m.tells(this, x);
    }

    int trace(int i) {
        return in(i, 0, Math.min(20, ran.size()) - 1) ? ran.get(i) : -1;
    }

    int taken(int p, int k) {
        if (!in(k, 0, 6)) return -2;
        if (!is(p)) return -11;
        Master m = now.masters.get(p);
        return born(k).getClass().isInstance(m) ? m.kind() : -12;
    }

    int count(int what) {
        if (!in(what, 0, 6)) return -2;
        return List.of(now.masters.size(), houses.size(), now.seen.size(), now.plan.size(),
            now.book.size(), text.length(), ran.size()).get(what);
    }

    int tape(int t, int sort, int n) {
        if (!in(t, 0, 5)) return -1;
        if (sort == -1) {
            tapes[t] = null;
            return 1;
        }
        if (!in(sort, 0, 4) || n > 60) return -2;
        if (n < 0) return -14;
        Class<?>[] sorts = {byte.class, short.class, int.class, long.class, boolean.class};
        tapes[t] = java.lang.reflect.Array.newInstance(sorts[sort], n);
        return 1;
    }

    int item(int t, int i, long v) {
        if (!in(t, 0, 5)) return -1;
        Object row = tapes[t];
        if (row == null) return -11;
        if (!in(i, 0, java.lang.reflect.Array.getLength(row) - 1)) return -13;
        if (row instanceof byte[]) ((byte[]) row)[i] = (byte) v;
        else if (row instanceof short[]) ((short[]) row)[i] = (short) v;
        else if (row instanceof int[]) ((int[]) row)[i] = (int) v;
        else if (row instanceof long[]) ((long[]) row)[i] = v;
        else ((boolean[]) row)[i] = v != 0;
        return 1;
    }

    long read(int t, int i) {
        if (!in(t, 0, 5) || tapes[t] == null) return NO;
        Object row = tapes[t];
        if (!in(i, 0, java.lang.reflect.Array.getLength(row) - 1)) return NO;
        if (row instanceof boolean[]) return ((boolean[]) row)[i] ? 1 : 0;
        return java.lang.reflect.Array.getLong(row, i);
    }

    int shift(int t, int i, int u, int j, int n) {
        if (!in(t, 0, 5) || !in(u, 0, 5)) return -1;
        if (tapes[t] == null || tapes[u] == null) return -11;
        if (tapes[t].getClass() != tapes[u].getClass()) return -12;
        try {
            System.arraycopy(tapes[t], i, tapes[u], j, n);
        } catch (IndexOutOfBoundsException beyond) {
            return -13;
        }
        return n;
    }
}
