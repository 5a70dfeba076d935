import com.sun.management.ThreadMXBean;
import java.lang.management.ManagementFactory;

/** What a run of calls makes is little: all of it lives in one room that is never cleared. */
public final class RoomTest {
    // Far below the room's 7.3 million fields and elements, at eight bytes each.
    private static final long MOST_BYTES_A_RUN = 100_000;
    // One object a call, of sixteen bytes at the least, would be twice as much.
    private static final long MOST_BYTES_A_CALL = 8;
    private static final ThreadMXBean BYTES = (ThreadMXBean) ManagementFactory.getThreadMXBean();

    public static void main(String[] args) {
        Report report = new Report();
        // Once to warm up, so that what the machine itself makes on first use is not counted.
        costliest(loaded().gate);
        long before = bytes();
        Bench b = loaded();
        long after = bytes();
        report.due("little is made by making", after - before < MOST_BYTES_A_RUN, true);
        int calls = b.gate.callsLeft();
        before = bytes();
        costliest(b.gate);
        after = bytes();
        report.due("checks and runs make nothing", after - before < MOST_BYTES_A_CALL * calls, true);
        report.due("all 512 calls were asked", b.gate.callsLeft(), 0);
        report.end();
    }

    private static long bytes() {
        return BYTES.getThreadAllocatedBytes(Thread.currentThread().getId());
    }

    private static Bench loaded() {
        Bench b = new Bench(new Report(), "room").classes(0, 1, 2, 3, 4);
        b.plain(0);
        b.gate.param(0, -1, false, 0);
        b.code(0, "load 0; zero 9; load 0; number -1; add; store 0; new 0; store 1; go 0; go 0");
        b.load(0);
        return b;
    }

    private static void costliest(Gate gate) {
        for (int left = gate.callsLeft(); left > 0; left--) {
            if (left % 2 == 0) {
                gate.check(0);
            } else {
                gate.run(0, 24, 0);
            }
        }
    }
}
