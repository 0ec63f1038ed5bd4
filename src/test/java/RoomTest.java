import java.lang.management.ManagementFactory;

/**
 * The room of one run: some 600,000 objects and arrays, 7.3 million fields and elements. A field takes
 * a byte at least and an object sixteen, so a run that makes fewer bytes than this keeps to both.
 */
public final class RoomTest {
    private static final long MOST_BYTES = 7_300_000;
    private static final String[] DEAREST = {
        "meter 1", "pulses 0 1 0 0", "row 0 1 1 1", "litres 0 198 1", "litres 0 200 0", "rows 0",
        "check 0 0", "poke 0 198 0", "set 0 1000", "marked 0 199", "gap 0 197 1", "rest 0 1000",
        "reset 0 1", "roll 0 5000", "roll 0 most",
    };

    public static void main(String[] args) {
        for (String call : DEAREST) {
            // Once before, so that what the machine makes at a first call is not counted.
            run(call);
            long before = made();
            run(call);
            long bytes = made() - before;
            Due.is("a run of " + call + " made " + bytes + " bytes", bytes <= MOST_BYTES);
        }
        Due.end("RoomTest");
    }

    /** Eight meters, 200 rows, and the one call for the rest of the 512. */
    private static void run(String call) {
        MeterSeals x = new MeterSeals();
        for (int i = 0; i < 8; i++) {
            x.meter(i);
        }
        x.row(0, 0, 7, 3);
        for (int i = 0; i < 199; i++) {
            x.pulses(0, 1_000_000, 5_000_000_000L * i, i % 150);
        }
        x.seal(0, 999, false);
        for (int used = 209; used < Calls.MOST; used++) {
            Calls.answer(x, call);
        }
    }

    private static long made() {
        return ((com.sun.management.ThreadMXBean) ManagementFactory.getThreadMXBean())
            .getCurrentThreadAllocatedBytes();
    }
}
