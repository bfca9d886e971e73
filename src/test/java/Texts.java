import java.util.Random;

/** Texts of houses by chance, right ones and spoilt ones. */
final class Texts {
    private static final String SIGNS = "slow keenrest pkvfam<=>0123456789&|!();;  ";
    private final Random chance;

    Texts(Random chance) {
        this.chance = chance;
    }

    private int below(int n) {
        return chance.nextInt(n);
    }

    /** A HOUSE, or what would be one if it were shorter: 100 signs at most are fed. */
    String house() {
        StringBuilder all = new StringBuilder(clause());
        for (int i = below(4); i > 0; i--) {
            all.append(';').append(clause());
        }
        return all.toString();
    }

    /** As many short clauses as told. */
    String clauses(int many) {
        StringBuilder all = new StringBuilder("rest 1");
        for (int i = 1; i < many; i++) {
            all.append(below(2) == 0 ? ";rest " : ";slow 1 p=").append(below(10));
        }
        return all.toString();
    }

    /** A HOUSE in which a sign or two went wrong, or just signs. */
    String spoilt() {
        StringBuilder all = new StringBuilder(below(6) == 0 ? clauses(9 + below(3)) : house());
        for (int i = below(3); i >= 0; i--) {
            int at = below(all.length() + 1);
            char sign = below(20) == 0 ? (char) below(128) : SIGNS.charAt(below(SIGNS.length()));
            int how = below(4);
            if (how == 0 && at < all.length()) {
                all.deleteCharAt(at);
            } else if (how == 1 && at < all.length()) {
                all.setCharAt(at, sign);
            } else if (how == 2) {
                all.insert(at, sign);
            } else if (all.length() > 1) {
                all.setLength(1 + below(all.length()));
            }
        }
        return all.toString();
    }

    private String clause() {
        if (below(4) == 0) {
            return "rest " + number(7);
        }
        return (below(2) == 0 ? "slow " : "keen ") + number(20) + " " + any(below(3) == 0 ? 5 : 2);
    }

    private String number(int most) {
        int n = below(5) == 0 ? below(100) : below(most);
        return n < 10 && below(8) == 0 ? "0" + n : "" + n;
    }

    private String any(int depth) {
        return all(depth) + (below(3) == 0 ? "|" + all(depth) : "");
    }

    private String all(int depth) {
        return one(depth) + (below(3) == 0 ? "&" + one(depth) : "");
    }

    private String one(int depth) {
        int how = depth == 0 ? 2 : below(4);
        if (how == 0) {
            return "!" + one(depth - 1);
        }
        if (how == 1) {
            return "(" + any(depth - 1) + ")";
        }
        return "" + "pkvfam".charAt(below(6)) + "<=>".charAt(below(3)) + number(10);
    }
}
