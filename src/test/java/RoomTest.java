import com.sun.management.ThreadMXBean;
import java.lang.management.ManagementFactory;

/** All calls of one run live in one room: an object is made with little, and no call makes anything. */
public final class RoomTest {
    private static final int ROUNDS = 512;
    private static final long ONE_OBJECT = 100_000;
    // below one object in each of so many rounds; above 0, as the machine's own doings may be counted
    private static final long ALL_ROUNDS = 4_000;
    private static final int[] ASKED = {-1, 0, 1, 3, 5, 6, 100};

    public static void main(String[] args) {
        Watch.start();
        if (!(ManagementFactory.getThreadMXBean() instanceof ThreadMXBean bean)
                || !bean.isThreadAllocatedMemorySupported() || !bean.isThreadAllocatedMemoryEnabled()) {
            System.out.println("this machine does not count what is made");
            return;
        }
        use(new DaysOnBread());
        long before = bean.getCurrentThreadAllocatedBytes();
        DaysOnBread x = new DaysOnBread();
        long made = bean.getCurrentThreadAllocatedBytes();
        for (int i = 0; i < ROUNDS; i++) {
            use(x);
        }
        long used = bean.getCurrentThreadAllocatedBytes();
        System.out.println(made - before + " bytes made by the constructor, " + (used - made) + " by the calls");
        if (made - before > ONE_OBJECT || used - made > ALL_ROUNDS) {
            System.out.println("that is too much");
            System.exit(1);
        }
    }

    /** Each method, some with what is refused, too; the dearest with all that they can hold. */
    private static void use(DaysOnBread x) {
        for (int v : ASKED) {
            x.feed(v, 0x34616461L);
            x.rule(v);
            x.feed(4, 0x30343A61L);
            x.rule(v);
            x.ruleOf(v, 0, 2);
            x.lean(v, 2);
            x.mode(v, v % 3);
            x.owes(v, 0, 15);
            x.why(v, 0, 15);
            x.done(v, 3, true);
            x.together(v);
            x.paying(v, 1, 2);
            x.feasts(v);
            x.friends(v);
            x.over(v, 3, 2, 1);
            x.over(2, 4, v, 5);
            x.byPutting(v, 1);
            x.put(v);
            x.part(v, 2);
            x.kin(v);
            x.count(v);
        }
        x.least(100, 400, 5);
        x.soonest(400);
        x.needed(400, 400);
        x.ring();
        x.stops();
        x.paid();
        x.judge();
        x.beside(true);
        x.image();
        x.undone();
        x.on();
    }
}
