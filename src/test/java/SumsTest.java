import java.lang.reflect.Field;
import java.math.BigInteger;

/**
 * The sums themselves. No call answers one, and a check alone can't tell one good formula from
 * another, so they are read from inside the object. How they are held there is free: a class that
 * holds them otherwise breaks no promise, and is not asked.
 */
public final class SumsTest {
    private static final BigInteger MODULUS = BigInteger.ONE.shiftLeft(64);
    private static final BigInteger FACTOR = BigInteger.valueOf(1_099_511_628_211L);

    public static void main(String[] args) throws ReflectiveOperationException {
        try {
            for (long key : new long[] {0, 1, -1, 12345, Long.MIN_VALUE, Long.MAX_VALUE}) {
                sumsOfAllKinds(key);
            }
        } catch (NoSuchFieldException thrown) {
            System.out.println("SumsTest: NOT ASKED, the class has no field " + thrown.getMessage());
        }
        Due.end("SumsTest");
    }

    private static void sumsOfAllKinds(long key) throws ReflectiveOperationException {
        MeterSeals x = new MeterSeals();
        x.meter(key);
        x.row(0, 0, 1, 1);
        x.pulses(0, 12, 345, -6);
        x.reset(0, 789);
        x.seal(0, 10, false);
        x.seal(0, 11, true);
        x.poke(0, 0, 5);
        x.pulses(0, 1_000_000, 1_000_000_000_000L, 150);
        long[][] numbers = {
            {12, 345, -6}, {789, -1, 0}, {10, -2, 0}, {11, -3, 0}, {1_000_000, 1_000_000_000_000L, 150},
        };
        long[] sums = sumsInside(x);
        long before = key;
        for (int row = 0; row < numbers.length; row++) {
            before = dueSum(before, key, numbers[row]);
            Due.number("key " + key + ": the sum of row " + row, sums[row], before);
        }
    }

    private static long dueSum(long before, long key, long[] numbers) {
        BigInteger h = cut(cut(before).multiply(BigInteger.valueOf(3)).add(cut(key)));
        for (long v : numbers) {
            h = cut(h.xor(cut(v)).multiply(FACTOR));
            h = h.xor(h.shiftRight(29));
        }
        return h.longValue();
    }

    private static BigInteger cut(long value) {
        return cut(BigInteger.valueOf(value));
    }

    private static BigInteger cut(BigInteger value) {
        return value.mod(MODULUS);
    }

    private static long[] sumsInside(MeterSeals x) throws ReflectiveOperationException {
        Object meter = ((Object[]) inside(x, "meters"))[0];
        return (long[]) inside(inside(meter, "rows"), "sums");
    }

    private static Object inside(Object holder, String name) throws ReflectiveOperationException {
        Field field = holder.getClass().getDeclaredField(name);
        field.setAccessible(true);
        return field.get(holder);
    }
}
