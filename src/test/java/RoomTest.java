import java.lang.management.ManagementFactory;

/** The room: a meter makes its rows once, and no other call makes anything. */
public final class RoomTest {
    private static final long MOST_BYTES_OF_EIGHT_METERS = 100_000;
    private static final long MOST_BYTES_OF_CALLS = 20_000;

    public static void main(String[] args) {
        // Once before, so that what the machine makes at a first call is not counted.
        makeMeters();
        useMeters(makeMeters());

        long before = made();
        MeterSeals x = makeMeters();
        long meters = made() - before;
        Due.is("8 meters made " + meters + " bytes", meters <= MOST_BYTES_OF_EIGHT_METERS);

        before = made();
        useMeters(x);
        long calls = made() - before;
        Due.is("the calls made " + calls + " bytes", calls <= MOST_BYTES_OF_CALLS);
        Due.end("RoomTest");
    }

    private static MeterSeals makeMeters() {
        MeterSeals x = new MeterSeals();
        for (int i = 0; i < 8; i++) {
            x.meter(i);
        }
        return x;
    }

    private static void useMeters(MeterSeals x) {
        x.row(0, 0, 7, 3);
        for (int i = 0; i < 199; i++) {
            x.pulses(0, 1_000_000, 1_000_000_000L * i, i % 150);
        }
        x.seal(0, 999, false);
        for (int i = 0; i < 50; i++) {
            x.roll(0, 100 * i);
            x.check(0, 0);
            x.rest(0, i);
            x.gap(0, i, 1);
            x.litres(0, i, 0);
            x.marked(0, i);
        }
    }

    private static long made() {
        return ((com.sun.management.ThreadMXBean) ManagementFactory.getThreadMXBean())
            .getCurrentThreadAllocatedBytes();
    }
}
