import com.sun.management.ThreadMXBean;
import java.lang.management.ManagementFactory;

/** A run's calls share one room, so no call may take any of it: rows are made in the constructor alone. */
final class RoomTest {
    private static final String[] NAMES = {"gate", "order", "cancel", "inflow", "fill", "set", "pass", "gateOf",
        "craneOf", "orderAt", "markAt", "would", "minutesUntil", "minutesToRest", "bestRule", "leastFlood", "count",
        "undo", "type", "clearText", "fault", "play"};

    /** An object has 512 calls, of which some make it what it is. */
    private static final int CALLS = 480;

    private RoomTest() { }

    public static void main(String[] args) {
        Check check = new Check("RoomTest");
        ThreadMXBean threads = (ThreadMXBean) ManagementFactory.getThreadMXBean();
        for (String name : NAMES) {
            work(new CraneGates[] {full()}, name);
            CraneGates[] lakes = {full(), full(), full(), full()};
            long before = threads.getCurrentThreadAllocatedBytes();
            work(lakes, name);
            long bytes = threads.getCurrentThreadAllocatedBytes() - before;
            // The machine's own reckoning takes a little; a call that makes objects takes far more in so many calls.
            check.that("room of " + name + ": " + bytes, bytes < 16 * lakes.length * CALLS);
        }
        check.end();
    }

    private static CraneGates full() {
        return Make.write(Make.full(), "i20;p1;");
    }

    private static void work(CraneGates[] lakes, String name) {
        for (CraneGates x : lakes) {
            for (int i = 0; i < CALLS; i++) {
                Program.call(x, name, i % 9, i % 11);
            }
        }
    }
}
