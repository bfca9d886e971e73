import java.lang.management.ManagementFactory;

/** What 512 of the dearest calls make in all: no more than the object itself takes. */
public final class RoomTest {
    private static final int CALLS = 512;

    public static void main(String[] args) {
        Due due = new Due("RoomTest");
        com.sun.management.ThreadMXBean beans =
            (com.sun.management.ThreadMXBean) ManagementFactory.getThreadMXBean();
        long self = Thread.currentThread().getId();
        // Once ahead of it, so that what the machine makes at first is not counted.
        dearest(new BellsBelow());
        long before = beans.getThreadAllocatedBytes(self);
        BellsBelow x = new BellsBelow();
        long made = beans.getThreadAllocatedBytes(self) - before;
        before = beans.getThreadAllocatedBytes(self);
        dearest(x);
        long more = beans.getThreadAllocatedBytes(self) - before;
        due.isSo("an object takes " + made + " bytes", made < 40000);
        due.isSo("its calls take " + more + " bytes more", more < 20000);
        due.ends();
    }

    private static void dearest(BellsBelow x) {
        for (int p = 0; p < 6; p++) {
            x.master(p, p, p);
        }
        for (int f = 0; f < 10; f++) {
            x.ring(f);
        }
        Due.house(x, "slow 1 ((p=1|k=2)&!v=3)|f>4;keen 2 m<5&a>2;rest 1");
        x.see(0, 20, 4);
        for (int i = 0; i < CALLS; i++) {
            x.of(i % 6, 8);
            x.from(i % 6);
            x.can(i % 6, 0);
            x.shared(0);
            x.told(4);
            x.on(60, 1);
            x.bell(i % 10, 0);
            x.odds(i % 6, 0);
            x.mean(60, 0);
            x.ends(0);
            x.act(i % 6, 2, i);
            x.image();
            x.undo();
            x.tape(i % 6, i % 5, 60);
        }
    }
}
