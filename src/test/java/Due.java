/** Counts and prints the answers that are not the ones that are due. */
final class Due {
    static final String ROW_OUTSIDE = "throws.ArrayIndexOutOfBoundsException";

    /** An object's calls don't reach further, so a roll without an end is not asked for ever. */
    private static final int MOST_BYTES = 500;
    private static final long MOST_MINUTES = 10;

    private static int wrong = 0;
    private static int asked = 0;

    static {
        Thread watch = new Thread(Due::endLateTest);
        watch.setDaemon(true);
        watch.start();
    }

    private Due() {
    }

    /** A call that does not end is a fault like a wrong answer, and must be told like one. */
    private static void endLateTest() {
        try {
            Thread.sleep(MOST_MINUTES * 60_000);
        } catch (InterruptedException thrown) {
            return;
        }
        System.out.println("the test has not ended after " + MOST_MINUTES + " minutes");
        Runtime.getRuntime().halt(1);
    }

    static void same(String call, Object got, Object want) {
        asked++;
        if (!want.equals(got)) {
            wrong++;
            System.out.println(call + " answered " + got + ", due is " + want);
        }
    }

    static void is(String call, boolean got) {
        same(call, got, true);
    }

    static void not(String call, boolean got) {
        same(call, got, false);
    }

    static void number(String call, long got, long want) {
        same(call, got, want);
    }

    /** What litres answers as a text, an exception too; one that the machine threw is told apart. */
    static String litres(MeterSeals seals, int meter, int row, int part) {
        try {
            return Long.toString(seals.litres(meter, row, part));
        } catch (ArrayIndexOutOfBoundsException thrown) {
            return byMachine(thrown) ? "the machine threw " + thrown.getMessage() : ROW_OUTSIDE;
        }
    }

    /** The machine's own has a text of its own or, from code that it compiled, no trace at all. */
    private static boolean byMachine(ArrayIndexOutOfBoundsException thrown) {
        String text = thrown.getMessage();
        return thrown.getStackTrace().length == 0
            || (text != null && text.matches("Index -?\\d+ out of bounds for length \\d+"));
    }

    static String fraction(MeterSeals seals, int meter, int row) {
        return litres(seals, meter, row, 0) + "/" + litres(seals, meter, row, 1);
    }

    /** The whole roll as a text; the bytes at both ends outside it must be NONE. */
    static String roll(MeterSeals seals, int meter) {
        StringBuilder text = new StringBuilder();
        int b = seals.roll(meter, 0);
        while (b != MeterSeals.NONE && text.length() < MOST_BYTES) {
            text.append((char) b);
            b = seals.roll(meter, text.length());
        }
        number("roll(" + meter + ", -1)", seals.roll(meter, -1), MeterSeals.NONE);
        number("roll behind its end", seals.roll(meter, text.length() + 1), MeterSeals.NONE);
        return text.toString();
    }

    static void end(String test) {
        System.out.println(test + ": " + asked + " answers, " + wrong + " not as due");
        if (wrong != 0) {
            System.exit(1);
        }
    }
}
