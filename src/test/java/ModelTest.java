import java.math.BigInteger;
import java.util.ArrayList;
import java.util.List;
import java.util.Map;
import java.util.Random;
import java.util.TreeMap;

/** Long runs of calls with a fixed seed, against a plain model that holds whole rows and texts. */
public final class ModelTest {
    private static final int RUNS = 1500;
    private static final int CALLS = 512;
    private static final int FILLING_CALLS = 250;
    private static final long[] EDGES = {
        Long.MIN_VALUE, Long.MAX_VALUE, Integer.MIN_VALUE, Integer.MAX_VALUE,
        -51, -50, -2, -1, 0, 1, 2, 3, 7, 8, 15, 16, 17, 149, 150, 151, 199, 200, 201, 998, 999, 1000,
        3600, 3601, 9_999, 10_000, 10_001, 999_999, 1_000_000, 1_000_001,
        999_999_999L, 1_000_000_000L, 1_000_000_001L, 999_999_999_999L, 1_000_000_000_000L,
        1_000_000_000_001L,
    };

    private static final class Row {
        char letter;
        long number;
        long came;
        long second;
        int degrees;
        boolean marked;
    }

    private static final class Meter {
        final TreeMap<Integer, long[]> table = new TreeMap<>();
        final List<Row> rows = new ArrayList<>();
        boolean sealed = true;
    }

    private final Random random;
    private final MeterSeals real = new MeterSeals();
    private final List<Meter> meters = new ArrayList<>();
    private final boolean wild;
    private long clock = 0;

    private ModelTest(long seed) {
        random = new Random(seed);
        wild = seed % 3 == 0;
    }

    public static void main(String[] args) {
        for (int seed = 0; seed < RUNS; seed++) {
            ModelTest run = new ModelTest(seed);
            int filled = seed % 3 == 1 ? FILLING_CALLS : 0;
            for (int call = 0; call < CALLS; call++) {
                String at = "run " + seed + " call " + call + ": ";
                if (call < filled) {
                    run.fill(at, call);
                } else {
                    run.call(at);
                }
            }
        }
        Due.end("ModelTest");
    }

    /** One meter, some lines, then rows alone, so that the run goes on around 200 rows. */
    private void fill(String at, int call) {
        if (call == 0) {
            meter(at);
        } else if (call < 5) {
            row(at);
        } else {
            switch (random.nextInt(5)) {
                case 0 -> reset(at);
                case 1 -> seal(at);
                default -> pulses(at);
            }
        }
    }

    private void call(String at) {
        switch (random.nextInt(20)) {
            case 0 -> meter(at);
            case 1, 2 -> row(at);
            case 3, 4, 5, 6, 7 -> pulses(at);
            case 8 -> reset(at);
            case 9, 10 -> seal(at);
            case 11 -> poke(at);
            case 12 -> litres(at);
            case 13 -> check(at);
            case 14 -> gap(at);
            case 15 -> rest(at);
            case 16 -> marked(at);
            case 17 -> rows(at);
            default -> roll(at);
        }
    }

    /** A number from the range, or now and then (in wild runs often) an edge of any kind. */
    private long pick(long least, long most) {
        if (random.nextInt(wild ? 3 : 40) == 0) {
            return EDGES[random.nextInt(EDGES.length)];
        }
        return least + (long) (random.nextDouble() * (most - least + 1));
    }

    private int pickInt(int least, int most) {
        return (int) pick(least, most);
    }

    private int pickMeter() {
        return wild ? pickInt(-1, 8) : pickInt(0, Math.min(1, Math.max(0, meters.size() - 1)));
    }

    private Meter find(int meter) {
        return meter >= 0 && meter < meters.size() ? meters.get(meter) : null;
    }

    private static Row find(Meter meter, int row) {
        return meter != null && row >= 0 && row < meter.rows.size() ? meter.rows.get(row) : null;
    }

    private int pickRow(int meter) {
        Meter m = find(meter);
        return pickInt(0, m == null ? 3 : m.rows.size());
    }

    private static boolean in(long value, long least, long most) {
        return least <= value && value <= most;
    }

    private void meter(String at) {
        long want = -2;
        if (meters.size() < 8) {
            want = meters.size();
            meters.add(new Meter());
        }
        Due.number(at + "meter", real.meter(pick(Long.MIN_VALUE / 4, Long.MAX_VALUE / 4)), want);
    }

    private void row(String at) {
        int meter = pickMeter();
        int degrees = pickInt(-50, 150);
        long above = pick(1, random.nextBoolean() ? 12 : 10_000);
        long below = pick(1, random.nextBoolean() ? 12 : 10_000);
        Meter m = find(meter);
        boolean want = m != null && in(degrees, -50, 150) && in(above, 1, 10_000) && in(below, 1, 10_000)
            && (m.table.containsKey(degrees) || m.table.size() < 16);
        if (want) {
            m.table.put(degrees, new long[] {above, below});
        }
        Due.same(at + "row", real.row(meter, degrees, above, below), want);
    }

    private void add(Meter m, char letter, long number, long second, int degrees) {
        Row r = new Row();
        r.letter = letter;
        r.number = number;
        r.came = number;
        r.second = second;
        r.degrees = degrees;
        r.marked = !m.sealed;
        m.rows.add(r);
    }

    private void pulses(String at) {
        int meter = pickMeter();
        long n = pick(0, random.nextBoolean() ? 20 : 1_000_000);
        long second = pick(clock - 1, clock + 5000);
        int degrees = pickInt(-50, 150);
        Meter m = find(meter);
        boolean want = m != null && !m.table.isEmpty() && in(n, 0, 1_000_000)
            && in(second, 0, 1_000_000_000_000L) && in(degrees, -50, 150) && m.rows.size() < 200;
        for (Row r : m == null ? List.<Row>of() : m.rows) {
            want = want && (r.letter != 'R' || r.second <= second);
        }
        if (want) {
            add(m, 'R', n, second, degrees);
            clock = Math.max(0, second);
        }
        Due.same(at + "pulses", real.pulses(meter, n, second, degrees), want);
    }

    private void reset(String at) {
        int meter = pickMeter();
        long v = pick(0, random.nextBoolean() ? 9 : 1_000_000_000_000L);
        Meter m = find(meter);
        boolean want = m != null && in(v, 0, 1_000_000_000_000L) && m.rows.size() < 200;
        if (want) {
            add(m, 'Z', v, 0, 0);
        }
        Due.same(at + "reset", real.reset(meter, v), want);
    }

    private void seal(String at) {
        int meter = pickMeter();
        int person = pickInt(1, 999);
        boolean set = random.nextBoolean();
        Meter m = find(meter);
        boolean want = m != null && in(person, 1, 999) && m.sealed != set && m.rows.size() < 200;
        if (want) {
            m.sealed = false;
            add(m, set ? 'S' : 'B', person, 0, 0);
            m.sealed = set;
        }
        Due.same(at + "seal", real.seal(meter, person, set), want);
    }

    private void poke(String at) {
        int meter = pickMeter();
        int row = pickRow(meter);
        Row r = find(find(meter), row);
        long by = pick(-30, 30);
        if (r != null && r.letter == 'R' && random.nextBoolean()) {
            by = r.came - r.number;
        }
        boolean want = false;
        if (r != null && r.letter == 'R') {
            BigInteger more = BigInteger.valueOf(r.number).add(BigInteger.valueOf(by));
            want = more.signum() >= 0 && more.compareTo(BigInteger.valueOf(1_000_000)) <= 0;
            r.number = want ? more.longValue() : r.number;
        }
        Due.same(at + "poke", real.poke(meter, row, by), want);
    }

    private static long[] line(Meter m, int degrees) {
        Map.Entry<Integer, long[]> entry = m.table.floorEntry(degrees);
        return entry == null ? m.table.firstEntry().getValue() : entry.getValue();
    }

    private void litres(String at) {
        int meter = pickMeter();
        int row = pickRow(meter);
        int part = pickInt(0, 1);
        Meter m = find(meter);
        Row r = find(m, row);
        String want = "-1";
        if (m != null && in(part, 0, 1)) {
            want = r == null ? Due.ROW_OUTSIDE : Integer.toString(part);
            if (r != null && r.letter == 'R') {
                long[] line = line(m, r.degrees);
                BigInteger above = BigInteger.valueOf(r.number).multiply(BigInteger.valueOf(line[0]));
                BigInteger below = BigInteger.valueOf(line[1]);
                want = (part == 0 ? above : below).divide(above.gcd(below)).toString();
            }
        }
        Due.same(at + "litres", Due.litres(real, meter, row, part), want);
    }

    private void check(String at) {
        int meter = pickMeter();
        int from = pickRow(meter);
        Meter m = find(meter);
        long want = -1;
        if (m != null && in(from, 0, m.rows.size())) {
            want = 0;
            // Each step of a sum can be undone, so other pulses always have another sum.
            for (int row = m.rows.size() - 1; row >= from; row--) {
                want = m.rows.get(row).number == m.rows.get(row).came ? want : row + 1;
            }
        }
        Due.number(at + "check", real.check(meter, from), want);
    }

    private void gap(String at) {
        int meter = pickMeter();
        int k = pickInt(0, 9);
        int what = pickInt(0, 1);
        Meter m = find(meter);
        List<Integer> readings = new ArrayList<>();
        for (int row = 0; m != null && row < m.rows.size(); row++) {
            if (m.rows.get(row).letter == 'R') {
                readings.add(row);
            }
        }
        List<long[]> gaps = new ArrayList<>();
        for (int i = 1; i < readings.size(); i++) {
            long seconds = m.rows.get(readings.get(i)).second - m.rows.get(readings.get(i - 1)).second;
            if (seconds > 3600) {
                gaps.add(new long[] {readings.get(i), Math.min(Integer.MAX_VALUE, seconds / 60)});
            }
        }
        long want = in(k, 0, gaps.size() - 1) && in(what, 0, 1) ? gaps.get(k)[what] : -1;
        Due.number(at + "gap", real.gap(meter, k, what), want);
    }

    private void rest(String at) {
        int meter = pickMeter();
        long tank = pick(0, random.nextBoolean() ? 9 : 1_000_000_000L);
        Meter m = find(meter);
        long want = Long.MIN_VALUE;
        if (m != null && in(tank, 0, 1_000_000_000L)) {
            want = -1000 * tank;
            for (Row r : m.rows) {
                want += r.letter == 'R' ? r.number * line(m, r.degrees)[0] * 1000 / line(m, r.degrees)[1] : 0;
            }
        }
        Due.number(at + "rest", real.rest(meter, tank), want);
    }

    private void marked(String at) {
        int meter = pickMeter();
        int row = pickRow(meter);
        Row r = find(find(meter), row);
        Due.same(at + "marked", real.marked(meter, row), r != null && r.marked);
    }

    private void rows(String at) {
        int meter = pickMeter();
        Meter m = find(meter);
        Due.number(at + "rows", real.rows(meter), m == null ? -1 : m.rows.size());
    }

    private static String text(Meter m) {
        StringBuilder text = new StringBuilder();
        for (Row r : m.rows) {
            text.append(r.letter).append(' ').append(r.number);
            if (r.letter == 'R') {
                text.append(' ').append(r.second).append(' ').append(r.degrees);
            }
            text.append(r.marked ? " *\n" : "\n");
        }
        return text.toString();
    }

    private void roll(String at) {
        int meter = pickMeter();
        Meter m = find(meter);
        String text = m == null ? "" : text(m);
        int i = pickInt(0, text.length());
        Due.number(at + "roll", real.roll(meter, i), in(i, 0, text.length() - 1) ? text.charAt(i) : -1);
    }
}
