/** Holds each answer against the one that is due, and tells those that differ. */
final class Due {
    private static final int MOST_TOLD = 40, MOST_SECONDS = 300;
    private final String name;
    private int looked;
    private int wrong;

    Due(String name) {
        this.name = name;
        watches();
    }

    /** A call that does not end must fail the test, not hold up all others. */
    private void watches() {
        Thread watch = new Thread(() -> {
            try {
                Thread.sleep(MOST_SECONDS * 1000L);
            } catch (InterruptedException early) {
                return;
            }
            System.out.println(name + ": not at its end after " + MOST_SECONDS + " seconds");
            Runtime.getRuntime().halt(1);
        });
        watch.setDaemon(true);
        watch.start();
    }

    void is(String call, long got, long want) {
        looked++;
        if (got == want) {
            return;
        }
        wrong++;
        if (wrong <= MOST_TOLD) {
            System.out.println(name + ": " + call + " answered " + got + ", due is " + want);
        }
    }

    void isSo(String what, boolean so) {
        is(what, so ? 1 : 0, 1);
    }

    int looked() {
        return looked;
    }

    int wrong() {
        return wrong;
    }

    /** The last line of each test: its exit code says whether it failed. */
    void ends() {
        System.out.println(name + ": " + looked + " looked at, " + wrong + " wrong");
        if (wrong != 0) {
            System.exit(1);
        }
    }

    static void feed(BellsBelow x, String text) {
        for (int i = 0; i < text.length(); i++) {
            x.feed(text.charAt(i));
        }
    }

    /** Feeds a text whole and makes a HOUSE of it. */
    static int house(BellsBelow x, String text) {
        feed(x, text);
        return x.house();
    }

    static int bits(int... floors) {
        int all = 0;
        for (int f : floors) {
            all |= 1 << f;
        }
        return all;
    }
}
