import com.sun.management.ThreadMXBean;
import java.lang.management.ManagementFactory;

/** A run's calls share one room, so no call may take any of it: rows are made in the constructor alone. */
final class RoomTest {
    private static final String[] NAMES = {"gate", "order", "cancel", "inflow", "fill", "set", "pass", "gateOf",
        "craneOf", "orderAt", "markAt", "would", "minutesUntil", "minutesToRest", "bestRule", "leastFlood", "count",
        "undo", "type", "clearText", "fault", "play"};

    private RoomTest() { }

    public static void main(String[] args) {
        Check check = new Check("RoomTest");
        ThreadMXBean threads = (ThreadMXBean) ManagementFactory.getThreadMXBean();
        CraneGates x = full();
        for (String name : NAMES) {
            work(x, name);
            long before = threads.getCurrentThreadAllocatedBytes();
            work(x, name);
            long bytes = threads.getCurrentThreadAllocatedBytes() - before;
            // The machine's own reckoning takes a little; a call that makes objects takes far more in so many calls.
            check.that("room of " + name + ": " + bytes, bytes < 16 * 1000);
        }
        check.end();
    }

    private static CraneGates full() {
        CraneGates x = new CraneGates();
        for (int gate = 0; gate < 8; gate++) {
            x.gate(0, 10);
        }
        for (int gate = 0; gate < 8; gate++) {
            x.order(gate, 9 - gate);
        }
        for (char c : "i20;o0,3;p1;".toCharArray()) {
            x.type(c);
        }
        return x;
    }

    private static void work(CraneGates x, String name) {
        for (int i = 0; i < 1000; i++) {
            Program.call(x, name, i % 9, i % 11);
        }
    }
}
