/**
 * Sealed meters: readings of pulses in rows that are chained by keyed sums, tables of litres by
 * temperature, seals, resets, gaps, printed rolls.
 */
public final class MeterSeals {
    public static final int NONE = -1;
    public static final int FULL = -2;

    private static final int MOST_METERS = 8;
    private static final int MOST_ROWS = 200;
    private static final int MOST_LINES = 16;

    private static final long MOST_PULSES = 1000000L;
    private static final long MOST_SECOND = 1000000000000L;
    private static final long MOST_RESET = 1000000000000L;
    private static final int LEAST_DEGREES = -50;
    private static final int MOST_DEGREES = 150;
    private static final int LEAST_PERSON = 1;
    private static final int MOST_PERSON = 999;
    private static final long LEAST_SHARE = 1L;
    private static final long MOST_SHARE = 10000L;
    private static final long MOST_TANK = 1000000000L;

    private static final int PART_ABOVE = 0;
    private static final int PART_BELOW = 1;
    private static final int GAP_ROW = 0;
    private static final int GAP_MINUTES = 1;
    private static final long GAP_SECONDS = 3600L;
    private static final long MINUTE_SECONDS = 60L;
    private static final long THOUSANDTHS = 1000L;
    private static final long MOST_INT = 2147483647L;
    private static final long LEAST_LONG = -9223372036854775808L;

    // The second of the three numbers of a row's sum tells its kind: a reading's is not negative.
    private static final long STAMP_RESET = -1L;
    private static final long STAMP_BROKEN = -2L;
    private static final long STAMP_SET = -3L;

    private static final long SUM_FACTOR = 1099511628211L;
    private static final int SUM_SHIFT = 29;

    // No long has more digits, and no two longs need more steps of Euclid's.
    private static final int MOST_DIGITS = 19;
    private static final int MOST_EUCLID_STEPS = 100;

    private final Meter[] meters;
    private int meterCount;

    public MeterSeals() {
        meters = new Meter[MOST_METERS];
        meterCount = 0;
    }

    public int meter(long key) {
        if (meterCount >= MOST_METERS) {
            return FULL;
        }
        int number = meterCount;
        meters[number] = new Meter(key);
        meterCount++;
        return number;
    }

    public boolean pulses(int meter, long n, long second, int degrees) {
        Meter found = find(meter);
        return found != null && found.addReading(n, second, degrees);
    }

    public boolean row(int meter, int degrees, long above, long below) {
        Meter found = find(meter);
        return found != null && found.table.put(degrees, above, below);
    }

    public long litres(int meter, int row, int part) throws ArrayIndexOutOfBoundsException {
        Meter found = find(meter);
        if (found == null || (part != PART_ABOVE && part != PART_BELOW)) {
            return NONE;
        }
        if (!found.rows.holds(row)) {
            throw new ArrayIndexOutOfBoundsException("no such row");
        }
        return found.fractionPart(row, part);
    }

    public int rows(int meter) {
        Meter found = find(meter);
        return found == null ? NONE : found.rows.count;
    }

    public int check(int meter, int from) {
        Meter found = find(meter);
        return found == null ? NONE : found.rows.firstWrong(from);
    }

    public boolean poke(int meter, int row, long by) {
        Meter found = find(meter);
        return found != null && found.rows.addPulses(row, by);
    }

    public boolean seal(int meter, int person, boolean set) {
        Meter found = find(meter);
        return found != null && found.turnSeal(person, set);
    }

    public boolean marked(int meter, int row) {
        Meter found = find(meter);
        return found != null && found.rows.hasMark(row);
    }

    public int gap(int meter, int k, int what) {
        Meter found = find(meter);
        if (found == null || k < 0 || (what != GAP_ROW && what != GAP_MINUTES)) {
            return NONE;
        }
        return found.rows.findGap(k, what);
    }

    public long rest(int meter, long tankLitres) {
        Meter found = find(meter);
        if (found == null || !within(tankLitres, 0, MOST_TANK)) {
            return LEAST_LONG;
        }
        return found.allThousandths() - tankLitres * THOUSANDTHS;
    }

    public boolean reset(int meter, long v) {
        Meter found = find(meter);
        return found != null && found.addReset(v);
    }

    public int roll(int meter, int i) {
        Meter found = find(meter);
        return found == null ? NONE : found.rows.rollByte(i);
    }

    private Meter find(int meter) {
        return meter >= 0 && meter < meterCount ? meters[meter] : null;
    }

    private static boolean within(long value, long least, long most) {
        return value >= least && value <= most;
    }

    /** The whole quotient; no divisor here is ever 0, but none divides untested. */
    private static long quotient(long dividend, long divisor) {
        return divisor == 0 ? 0 : dividend / divisor;
    }

    private static long commonDivisor(long one, long other) {
        long a = one;
        long b = other;
        for (int step = 0; step < MOST_EUCLID_STEPS && b != 0; step++) {
            long left = a % b;
            a = b;
            b = left;
        }
        return a;
    }

    private static int textLength(long value) {
        int length = value < 0 ? 2 : 1;
        long left = value / 10;
        for (int step = 0; step < MOST_DIGITS && left != 0; step++) {
            length++;
            left /= 10;
        }
        return length;
    }

    /** Character at of a number's text; reckoned, so that a roll makes no objects. */
    private static int textByte(long value, int at) {
        if (value < 0 && at == 0) {
            return '-';
        }
        long left = value;
        for (int behind = textLength(value) - 1 - at; behind > 0; behind--) {
            left /= 10;
        }
        return '0' + (int) Math.abs(left % 10);
    }

    /** One meter: its table, its rows and its seal. */
    private static final class Meter {
        private final Table table;
        private final Rows rows;
        private boolean sealed;
        private long lastSecond;

        Meter(long key) {
            table = new Table();
            rows = new Rows(key);
            sealed = true;
            lastSecond = 0;
        }

        boolean addReading(long number, long second, int degrees) {
            // Seconds never fall, so the last reading's is the most of all before.
            boolean fits = table.count > 0
                && within(number, 0, MOST_PULSES)
                && within(second, lastSecond, MOST_SECOND)
                && within(degrees, LEAST_DEGREES, MOST_DEGREES);
            if (!fits || !rows.add(number, second, degrees, !sealed)) {
                return false;
            }
            lastSecond = second;
            return true;
        }

        boolean addReset(long number) {
            return within(number, 0, MOST_RESET) && rows.add(number, STAMP_RESET, 0, !sealed);
        }

        boolean turnSeal(int person, boolean set) {
            if (!within(person, LEAST_PERSON, MOST_PERSON) || sealed == set) {
                return false;
            }
            if (!rows.add(person, set ? STAMP_SET : STAMP_BROKEN, 0, true)) {
                return false;
            }
            sealed = set;
            return true;
        }

        long fractionPart(int row, int part) {
            long above = litresAbove(row);
            long below = litresBelow(row);
            return quotient(part == PART_ABOVE ? above : below, commonDivisor(above, below));
        }

        long allThousandths() {
            long all = 0;
            for (int row = 0; row < rows.count; row++) {
                all += quotient(litresAbove(row) * THOUSANDTHS, litresBelow(row));
            }
            return all;
        }

        private long litresAbove(int row) {
            return rows.pulsesOf(row) * table.aboveAt(rows.degreesOf(row));
        }

        private long litresBelow(int row) {
            return rows.isReading(row) ? table.belowAt(rows.degreesOf(row)) : 1;
        }
    }

    /** The litres of a pulse by degrees; the lines stand in the order in which they came. */
    private static final class Table {
        private final int[] starts;
        private final long[] aboves;
        private final long[] belows;
        private int count;

        Table() {
            starts = new int[MOST_LINES];
            aboves = new long[MOST_LINES];
            belows = new long[MOST_LINES];
            count = 0;
        }

        boolean put(int start, long above, long below) {
            boolean fits = within(start, LEAST_DEGREES, MOST_DEGREES)
                && within(above, LEAST_SHARE, MOST_SHARE)
                && within(below, LEAST_SHARE, MOST_SHARE);
            int line = placeFor(start);
            if (!fits || line >= MOST_LINES) {
                return false;
            }
            starts[line] = start;
            aboves[line] = above;
            belows[line] = below;
            count = Math.max(count, line + 1);
            return true;
        }

        long aboveAt(int degrees) {
            int line = lineAt(degrees);
            return line < 0 ? 0 : aboves[line];
        }

        long belowAt(int degrees) {
            int line = lineAt(degrees);
            return line < 0 ? 1 : belows[line];
        }

        private int placeFor(int start) {
            for (int line = 0; line < count; line++) {
                if (starts[line] == start) {
                    return line;
                }
            }
            return count;
        }

        private int lineAt(int degrees) {
            int best = NONE;
            for (int line = 0; line < count; line++) {
                if (best == NONE || goesBefore(starts[line], starts[best], degrees)) {
                    best = line;
                }
            }
            return best;
        }

        private static boolean goesBefore(int start, int other, int degrees) {
            if (start <= degrees) {
                return other > degrees || start > other;
            }
            return other > degrees && start < other;
        }
    }

    /** The chained rows of a meter, each with the three numbers that its sum is made of. */
    private static final class Rows {
        private final long key;
        private final long[] numbers;
        private final long[] stamps;
        private final int[] degrees;
        private final long[] sums;
        private final boolean[] marks;
        private int count;

        Rows(long key) {
            this.key = key;
            numbers = new long[MOST_ROWS];
            stamps = new long[MOST_ROWS];
            degrees = new int[MOST_ROWS];
            sums = new long[MOST_ROWS];
            marks = new boolean[MOST_ROWS];
            count = 0;
        }

        boolean add(long number, long stamp, int warmth, boolean mark) {
            if (count >= MOST_ROWS) {
                return false;
            }
            int row = count;
            numbers[row] = number;
            stamps[row] = stamp;
            degrees[row] = warmth;
            marks[row] = mark;
            count++;
            sums[row] = dueSum(row);
            return true;
        }

        boolean holds(int row) {
            return row >= 0 && row < count;
        }

        boolean isReading(int row) {
            return holds(row) && stamps[row] >= 0;
        }

        boolean hasMark(int row) {
            return holds(row) && marks[row];
        }

        long pulsesOf(int row) {
            return isReading(row) ? numbers[row] : 0;
        }

        int degreesOf(int row) {
            return holds(row) ? degrees[row] : 0;
        }

        boolean addPulses(int row, long by) {
            // Compared with the room that is left, since a sum with any long may wrap around.
            long now = pulsesOf(row);
            if (!isReading(row) || !within(by, -now, MOST_PULSES - now)) {
                return false;
            }
            numbers[row] = now + by;
            return true;
        }

        int firstWrong(int from) {
            if (from < 0 || from > count) {
                return NONE;
            }
            for (int row = from; row < count; row++) {
                if (sums[row] != dueSum(row)) {
                    return row + 1;
                }
            }
            return 0;
        }

        private long dueSum(int row) {
            if (!holds(row)) {
                return 0;
            }
            long before = row == 0 ? key : sums[row - 1];
            long sum = 3 * before + key;
            sum = stir(sum, numbers[row]);
            sum = stir(sum, stamps[row]);
            return stir(sum, degrees[row]);
        }

        private static long stir(long sum, long value) {
            long stirred = (sum ^ value) * SUM_FACTOR;
            return stirred ^ (stirred >>> SUM_SHIFT);
        }

        int findGap(int k, int what) {
            int left = k;
            long before = NONE;
            for (int row = 0; row < count; row++) {
                if (!isReading(row)) {
                    continue;
                }
                long seconds = before < 0 ? 0 : stamps[row] - before;
                before = stamps[row];
                if (seconds <= GAP_SECONDS) {
                    continue;
                }
                if (left == 0) {
                    return what == GAP_ROW ? row : wholeMinutes(seconds);
                }
                left--;
            }
            return NONE;
        }

        private static int wholeMinutes(long seconds) {
            return (int) Math.min(seconds / MINUTE_SECONDS, MOST_INT);
        }

        int rollByte(int i) {
            if (i < 0) {
                return NONE;
            }
            int left = i;
            for (int row = 0; row < count; row++) {
                int length = lineLength(row);
                if (left < length) {
                    return lineByte(row, left);
                }
                left -= length;
            }
            return NONE;
        }

        private int lineLength(int row) {
            int length = 1;
            for (int field = 0; field < fieldCount(row); field++) {
                length += 1 + textLength(fieldOf(row, field));
            }
            return length + (hasMark(row) ? 2 : 0) + 1;
        }

        private int lineByte(int row, int at) {
            if (at == 0) {
                return letterOf(row);
            }
            int left = at - 1;
            for (int field = 0; field < fieldCount(row); field++) {
                long value = fieldOf(row, field);
                int width = 1 + textLength(value);
                if (left < width) {
                    return left == 0 ? ' ' : textByte(value, left - 1);
                }
                left -= width;
            }
            if (hasMark(row) && left < 2) {
                return left == 0 ? ' ' : '*';
            }
            return '\n';
        }

        private char letterOf(int row) {
            if (!holds(row) || isReading(row)) {
                return 'R';
            }
            if (stamps[row] == STAMP_RESET) {
                return 'Z';
            }
            return stamps[row] == STAMP_BROKEN ? 'B' : 'S';
        }

        private int fieldCount(int row) {
            return isReading(row) ? 3 : 1;
        }

        private long fieldOf(int row, int field) {
            if (!holds(row)) {
                return 0;
            }
            if (field == 0) {
                return numbers[row];
            }
            return field == 1 ? stamps[row] : degrees[row];
        }
    }
}
