import java.lang.management.ManagementFactory;
import java.util.List;
import java.util.function.ObjIntConsumer;

/** What 512 calls of the dearest make, each of them alone: next to nothing beside the object. */
public final class RoomTest {
    private static final int CALLS = 512;
    private static final List<ObjIntConsumer<BellsBelow>> DEAREST = List.of(
        (x, i) -> x.of(i % 6, 8), (x, i) -> x.from(i % 6), (x, i) -> x.can(i % 6, 0),
        (x, i) -> x.shared(0), (x, i) -> x.told(4), (x, i) -> x.on(60, 1),
        (x, i) -> x.bell(i % 10, 0), (x, i) -> x.odds(i % 6, 0), (x, i) -> x.mean(60, 0),
        (x, i) -> x.ends(0), (x, i) -> x.act(i % 6, 2, i), (x, i) -> x.image(),
        (x, i) -> x.tape(i % 6, i % 5, 60), (x, i) -> x.house(), (x, i) -> x.feed('r'));

    public static void main(String[] args) {
        Due due = new Due("RoomTest");
        com.sun.management.ThreadMXBean beans =
            (com.sun.management.ThreadMXBean) ManagementFactory.getThreadMXBean();
        long self = Thread.currentThread().getId();
        for (int which = 0; which < DEAREST.size(); which++) {
            // Once ahead of it, so that what the machine makes at first is not counted.
            calls(stage(), which);
            long before = beans.getThreadAllocatedBytes(self);
            BellsBelow x = stage();
            long made = beans.getThreadAllocatedBytes(self) - before;
            before = beans.getThreadAllocatedBytes(self);
            calls(x, which);
            long more = beans.getThreadAllocatedBytes(self) - before;
            due.isSo("an object takes " + made + " bytes", made < 60000);
            due.isSo("calls of " + which + " take " + more + " bytes more", more < 20000);
        }
        due.ends();
    }

    private static BellsBelow stage() {
        BellsBelow x = new BellsBelow();
        for (int p = 0; p < 6; p++) {
            x.master(p, p, p);
        }
        for (int f = 0; f < 10; f++) {
            x.ring(f);
        }
        Due.house(x, "slow 1 ((p=1|k=2)&!v=3)|f>4;keen 2 m<5&a>2;rest 1");
        x.see(0, 20, 4);
        return x;
    }

    private static void calls(BellsBelow x, int which) {
        for (int i = 80; i < CALLS; i++) {
            DEAREST.get(which).accept(x, i);
        }
    }
}
