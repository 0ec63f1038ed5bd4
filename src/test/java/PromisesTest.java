/** Each promise of the document by itself: ordinary inputs, the edges, wrong inputs. */
public final class PromisesTest {
    private static final int[] NO_METERS = {-1, 1, 7, 8, Integer.MIN_VALUE, Integer.MAX_VALUE};
    private static final long TRILLION = 1_000_000_000_000L;

    public static void main(String[] args) {
        promise1NewObject();
        promise2Meter();
        promise3Pulses();
        promise3FullRows();
        promise4Row();
        promise4LineThatCounts();
        promise5Litres();
        promise6Rows();
        promise7Check();
        promise8Poke();
        promise9Seal();
        promise10Marked();
        promise11Gap();
        promise11GapBetweenReadings();
        promise12Rest();
        promise13Reset();
        promise14Roll();
        Due.end("PromisesTest");
    }

    /** Meter 0 with one litre a pulse at all degrees. */
    private static MeterSeals plain() {
        MeterSeals x = new MeterSeals();
        x.meter(77);
        x.row(0, 0, 1, 1);
        return x;
    }

    private static MeterSeals fullRows() {
        MeterSeals x = plain();
        for (int i = 0; i < 200; i++) {
            Due.is("reset " + i, x.reset(0, i));
        }
        return x;
    }

    private static void promise1NewObject() {
        MeterSeals x = new MeterSeals();
        for (int meter : new int[] {0, -1, 1, 7, 8, Integer.MIN_VALUE, Integer.MAX_VALUE}) {
            asksNoMeter(x, meter);
        }
        Due.number("first meter", x.meter(5), 0);
        Due.number("rows(0)", x.rows(0), 0);
        for (int meter : NO_METERS) {
            asksNoMeter(x, meter);
        }
        MeterSeals other = new MeterSeals();
        Due.number("rows(0) of another object", other.rows(0), -1);
    }

    private static void asksNoMeter(MeterSeals x, int meter) {
        String no = "of no meter " + meter;
        Due.not("pulses " + no, x.pulses(meter, 1, 1, 1));
        Due.not("row " + no, x.row(meter, 1, 1, 1));
        Due.same("litres " + no, Due.litres(x, meter, 0, 0), "-1");
        Due.number("rows " + no, x.rows(meter), -1);
        Due.number("check " + no, x.check(meter, 0), -1);
        Due.not("poke " + no, x.poke(meter, 0, 0));
        Due.not("seal " + no, x.seal(meter, 1, false));
        Due.not("marked " + no, x.marked(meter, 0));
        Due.number("gap " + no, x.gap(meter, 0, 0), -1);
        Due.number("rest " + no, x.rest(meter, 0), Long.MIN_VALUE);
        Due.not("reset " + no, x.reset(meter, 0));
        Due.number("roll " + no, x.roll(meter, 0), -1);
    }

    private static void promise2Meter() {
        MeterSeals x = new MeterSeals();
        long[] keys = {0, Long.MIN_VALUE, Long.MAX_VALUE, -1, 5, 5, 1, 2};
        for (int i = 0; i < 8; i++) {
            Due.number("rows before meter " + i, x.rows(i), -1);
            Due.number("meter " + i, x.meter(keys[i]), i);
            Due.number("rows of a new meter", x.rows(i), 0);
            Due.not("a reading without lines", x.pulses(i, 1, 1, 1));
            Due.not("its seal is set already", x.seal(i, 1, true));
        }
        Due.number("the ninth meter", x.meter(9), -2);
        Due.number("the tenth meter", x.meter(0), -2);
        Due.number("rows(8)", x.rows(8), -1);
        Due.is("row of the last", x.row(7, 0, 1, 1));
        Due.is("pulses of the last", x.pulses(7, 1, 1, 1));
        Due.not("pulses of another", x.pulses(6, 1, 1, 1));
        Due.number("rows(7)", x.rows(7), 1);
        Due.number("rows(6)", x.rows(6), 0);
    }

    private static void promise3Pulses() {
        MeterSeals x = new MeterSeals();
        x.meter(1);
        Due.not("no line", x.pulses(0, 1, 0, 0));
        x.row(0, 100, 1, 1);
        for (long n : new long[] {-1, 1_000_001, Long.MIN_VALUE, Long.MAX_VALUE}) {
            Due.not("pulses " + n, x.pulses(0, n, 0, 0));
        }
        for (long second : new long[] {-1, TRILLION + 1, Long.MIN_VALUE, Long.MAX_VALUE}) {
            Due.not("second " + second, x.pulses(0, 1, second, 0));
        }
        for (int degrees : new int[] {-51, 151, Integer.MIN_VALUE, Integer.MAX_VALUE}) {
            Due.not("degrees " + degrees, x.pulses(0, 1, 0, degrees));
        }
        Due.number("refused ones leave no row", x.rows(0), 0);
        Due.is("the least of all", x.pulses(0, 0, 0, -50));
        Due.is("a second", x.pulses(0, 1_000_000, 500, 150));
        Due.is("the same second", x.pulses(0, 1, 500, 0));
        Due.not("a second before", x.pulses(0, 1, 499, 0));
        Due.is("reset", x.reset(0, 0));
        Due.is("seal", x.seal(0, 1, false));
        Due.not("a second before, behind other rows", x.pulses(0, 1, 499, 0));
        Due.not("refused, its second does not count", x.pulses(0, -1, 900, 0));
        Due.is("still the same second", x.pulses(0, 1, 500, 0));
        Due.is("the last second", x.pulses(0, 1, TRILLION, 0));
        Due.number("rows(0)", x.rows(0), 7);
        x.meter(2);
        x.row(1, 0, 1, 1);
        Due.is("another meter has seconds of its own", x.pulses(1, 1, 0, 0));
    }

    private static void promise3FullRows() {
        MeterSeals x = plain();
        for (int i = 0; i < 200; i++) {
            Due.is("reading " + i, x.pulses(0, 1, i, 0));
        }
        Due.not("reading 200", x.pulses(0, 1, 200, 0));
        Due.number("rows(0)", x.rows(0), 200);
        Due.number("check(0, 0)", x.check(0, 0), 0);
        Due.same("litres of the last", Due.fraction(x, 0, 199), "1/1");
        Due.same("litres behind it", Due.litres(x, 0, 200, 0), Due.ROW_OUTSIDE);
    }

    private static void promise4Row() {
        MeterSeals x = new MeterSeals();
        x.meter(1);
        for (int degrees : new int[] {-51, 151, Integer.MIN_VALUE, Integer.MAX_VALUE}) {
            Due.not("degrees " + degrees, x.row(0, degrees, 1, 1));
        }
        for (long bad : new long[] {0, -1, 10_001, Long.MIN_VALUE, Long.MAX_VALUE}) {
            Due.not("above " + bad, x.row(0, 0, bad, 1));
            Due.not("below " + bad, x.row(0, 0, 1, bad));
        }
        Due.not("no line came of it", x.pulses(0, 1, 0, 0));
        Due.is("least degrees", x.row(0, -50, 1, 10_000));
        Due.is("most degrees", x.row(0, 150, 10_000, 1));
        for (int i = 0; i < 14; i++) {
            Due.is("line " + i, x.row(0, i, 1, 1));
        }
        Due.not("a line beside 16 others", x.row(0, 14, 1, 1));
        Due.is("in the place of the first", x.row(0, -50, 2, 3));
        Due.is("in the place of the last", x.row(0, 13, 4, 5));
        Due.not("in its place, but wrong", x.row(0, 0, 0, 1));
        Due.not("still 16 others", x.row(0, 149, 1, 1));
        Due.number("no rows of lines", x.rows(0), 0);
        x.pulses(0, 1, 0, -1);
        x.pulses(0, 1, 0, 149);
        x.pulses(0, 1, 0, 150);
        x.pulses(0, 1, 0, 0);
        Due.same("the first line anew", Due.fraction(x, 0, 0), "2/3");
        Due.same("the last line anew", Due.fraction(x, 0, 1), "4/5");
        Due.same("the most degrees", Due.fraction(x, 0, 2), "10000/1");
        Due.same("the refused line is unchanged", Due.fraction(x, 0, 3), "1/1");
    }

    private static void promise4LineThatCounts() {
        int[][] orders = {{10, 20, 30}, {30, 20, 10}, {20, 30, 10}, {20, 10, 30}, {30, 10, 20}, {10, 30, 20}};
        for (int[] order : orders) {
            MeterSeals x = new MeterSeals();
            x.meter(1);
            for (int degrees : order) {
                x.row(0, degrees, degrees + 1, 1);
            }
            int[] asked = {-50, 9, 10, 19, 20, 29, 30, 150};
            int[] above = {11, 11, 11, 11, 21, 21, 31, 31};
            for (int i = 0; i < asked.length; i++) {
                x.pulses(0, 1, 0, asked[i]);
                Due.same("at " + asked[i] + " degrees", Due.fraction(x, 0, i), above[i] + "/1");
            }
        }
    }

    private static void promise5Litres() {
        MeterSeals x = plain();
        x.row(0, 0, 6, 4);
        x.pulses(0, 10, 0, 0);
        x.pulses(0, 0, 0, 0);
        x.pulses(0, 1_000_000, 0, 100);
        x.reset(0, 5);
        x.seal(0, 5, false);
        x.seal(0, 5, true);
        x.pulses(0, 1, 0, 0);
        Due.same("10 * 6 / 4", Due.fraction(x, 0, 0), "15/1");
        Due.same("no pulses", Due.fraction(x, 0, 1), "0/1");
        Due.same("many pulses", Due.fraction(x, 0, 2), "1500000/1");
        Due.same("a reset", Due.fraction(x, 0, 3), "0/1");
        Due.same("a broken seal", Due.fraction(x, 0, 4), "0/1");
        Due.same("a set seal", Due.fraction(x, 0, 5), "0/1");
        Due.same("1 * 6 / 4", Due.fraction(x, 0, 6), "3/2");
        x.row(0, 50, 9999, 10_000);
        Due.same("by the table as it is now", Due.fraction(x, 0, 2), "999900/1");
        x.row(0, 0, 10_000, 9999);
        Due.same("a line in its place", Due.fraction(x, 0, 6), "10000/9999");
        x.poke(0, 6, 9);
        Due.same("pulses as they are now", Due.fraction(x, 0, 6), "100000/9999");
        for (int row : new int[] {-1, 7, 200, Integer.MIN_VALUE, Integer.MAX_VALUE}) {
            Due.same("row " + row + " above", Due.litres(x, 0, row, 0), Due.ROW_OUTSIDE);
            Due.same("row " + row + " below", Due.litres(x, 0, row, 1), Due.ROW_OUTSIDE);
            Due.same("no meter, row " + row, Due.litres(x, 1, row, 0), "-1");
        }
        for (int part : new int[] {-1, 2, Integer.MIN_VALUE, Integer.MAX_VALUE}) {
            Due.same("part " + part, Due.litres(x, 0, 0, part), "-1");
            Due.same("part " + part + " of a row outside", Due.litres(x, 0, 7, part), "-1");
        }
        Due.same("no row at all", Due.litres(new MeterSeals(), 0, 0, 0), "-1");
        MeterSeals empty = plain();
        Due.same("a meter without rows", Due.litres(empty, 0, 0, 0), Due.ROW_OUTSIDE);
    }

    private static void promise6Rows() {
        MeterSeals x = plain();
        Due.number("rows", x.rows(0), 0);
        x.pulses(0, 1, 1, 1);
        Due.number("a reading is a row", x.rows(0), 1);
        x.reset(0, 1);
        Due.number("a reset is a row", x.rows(0), 2);
        x.seal(0, 1, false);
        Due.number("a broken seal is a row", x.rows(0), 3);
        x.seal(0, 1, true);
        Due.number("a set seal is a row", x.rows(0), 4);
        x.poke(0, 0, 1);
        x.row(0, 9, 1, 1);
        x.pulses(0, 1, 0, 1);
        Due.number("nothing else is", x.rows(0), 4);
        for (int meter : NO_METERS) {
            Due.number("rows(" + meter + ")", x.rows(meter), -1);
        }
        Due.number("of full rows", fullRows().rows(0), 200);
    }

    private static void promise7Check() {
        for (long key : new long[] {0, 1, -1, 12345, Long.MIN_VALUE, Long.MAX_VALUE}) {
            MeterSeals x = new MeterSeals();
            x.meter(key);
            Due.number("no rows", x.check(0, 0), 0);
            Due.number("no rows, from 1", x.check(0, 1), -1);
            x.row(0, 0, 1, 1);
            x.pulses(0, 5, 10, -50);
            x.reset(0, 5);
            x.seal(0, 5, false);
            x.seal(0, 5, true);
            x.pulses(0, 5, 10, 150);
            x.pulses(0, 5, 10, 150);
            for (int from = 0; from <= 6; from++) {
                Due.number("all rows from " + from, x.check(0, from), 0);
            }
            for (int from : new int[] {-1, 7, Integer.MIN_VALUE, Integer.MAX_VALUE}) {
                Due.number("from " + from, x.check(0, from), -1);
            }
            x.poke(0, 4, 1);
            Due.number("row 4 is wrong", x.check(0, 0), 5);
            Due.number("from itself", x.check(0, 4), 5);
            Due.number("the next one goes by the sum that stands", x.check(0, 5), 0);
            x.poke(0, 0, -1);
            Due.number("the first is wrong", x.check(0, 0), 1);
            Due.number("behind the first", x.check(0, 1), 5);
            Due.is("a row behind wrong ones", x.pulses(0, 1, 10, 0));
            Due.number("has the sum that is its", x.check(0, 5), 0);
            x.poke(0, 4, -1);
            x.poke(0, 0, 1);
            Due.number("all mended", x.check(0, 0), 0);
        }
    }

    private static void promise8Poke() {
        MeterSeals x = plain();
        x.pulses(0, 10, 0, 0);
        x.reset(0, 10);
        x.seal(0, 10, false);
        x.seal(0, 10, true);
        for (long by : new long[] {-11, 999_991, Long.MIN_VALUE, Long.MAX_VALUE, Long.MAX_VALUE - 9}) {
            Due.not("by " + by, x.poke(0, 0, by));
        }
        Due.same("refused, nothing changed", Due.fraction(x, 0, 0), "10/1");
        Due.is("by 0", x.poke(0, 0, 0));
        Due.number("its sum is its own still", x.check(0, 0), 0);
        Due.is("by 5", x.poke(0, 0, 5));
        Due.same("5 more", Due.fraction(x, 0, 0), "15/1");
        Due.number("its sum stays", x.check(0, 0), 1);
        Due.is("to none", x.poke(0, 0, -15));
        Due.same("none", Due.fraction(x, 0, 0), "0/1");
        Due.not("below none", x.poke(0, 0, -1));
        Due.is("to the most", x.poke(0, 0, 1_000_000));
        Due.same("the most", Due.fraction(x, 0, 0), "1000000/1");
        Due.not("above the most", x.poke(0, 0, 1));
        for (int row : new int[] {1, 2, 3, 4, -1, 200, Integer.MIN_VALUE, Integer.MAX_VALUE}) {
            Due.not("no reading " + row, x.poke(0, row, 1));
            Due.not("no reading " + row + " by 0", x.poke(0, row, 0));
        }
        Due.number("other rows are unchanged", x.check(0, 1), 0);
        Due.number("the second and the degrees stay", x.rows(0), 4);
    }

    private static void promise9Seal() {
        MeterSeals x = plain();
        for (int person : new int[] {0, 1000, -1, Integer.MIN_VALUE, Integer.MAX_VALUE}) {
            Due.not("broken by " + person, x.seal(0, person, false));
        }
        Due.not("set already", x.seal(0, 1, true));
        Due.is("broken by 1", x.seal(0, 1, false));
        Due.not("broken already", x.seal(0, 1, false));
        Due.not("broken already, another person", x.seal(0, 2, false));
        for (int person : new int[] {0, 1000, -1, Integer.MIN_VALUE, Integer.MAX_VALUE}) {
            Due.not("set by " + person, x.seal(0, person, true));
        }
        Due.is("set by 999", x.seal(0, 999, true));
        Due.not("set again", x.seal(0, 999, true));
        Due.is("broken again", x.seal(0, 500, false));
        Due.number("rows", x.rows(0), 3);
        x.meter(1);
        Due.not("each meter has its seal", x.seal(1, 1, true));
        MeterSeals full = fullRows();
        Due.not("no room to break it", full.seal(0, 1, false));
        Due.not("so it is set", full.seal(0, 1, true));
        MeterSeals last = plain();
        for (int i = 0; i < 199; i++) {
            last.reset(0, i);
        }
        Due.is("the last row breaks it", last.seal(0, 1, false));
        Due.not("no room to set it", last.seal(0, 1, true));
        Due.number("rows", last.rows(0), 200);
    }

    private static void promise10Marked() {
        MeterSeals x = plain();
        x.pulses(0, 1, 0, 0);
        x.seal(0, 1, false);
        x.pulses(0, 1, 0, 0);
        x.reset(0, 1);
        x.seal(0, 1, true);
        x.pulses(0, 1, 0, 0);
        x.reset(0, 1);
        x.poke(0, 0, 1);
        boolean[] due = {false, true, true, true, true, false, false};
        for (int row = 0; row < due.length; row++) {
            Due.same("marked(0, " + row + ")", x.marked(0, row), due[row]);
        }
        x.seal(0, 1, false);
        Due.not("a break marks no row before", x.marked(0, 6));
        Due.is("but itself", x.marked(0, 7));
        for (int row : new int[] {-1, 8, 200, Integer.MIN_VALUE, Integer.MAX_VALUE}) {
            Due.not("no row " + row, x.marked(0, row));
        }
    }

    private static void promise11Gap() {
        MeterSeals x = plain();
        x.pulses(0, 1, 50_000, 0);
        Due.number("none before the first reading", x.gap(0, 0, 0), -1);
        x.pulses(0, 1, 53_600, 0);
        Due.number("3600 seconds are none", x.gap(0, 0, 0), -1);
        x.pulses(0, 1, 57_201, 0);
        Due.number("3601 seconds: the row", x.gap(0, 0, 0), 2);
        Due.number("3601 seconds: minutes", x.gap(0, 0, 1), 60);
        x.pulses(0, 1, 57_201, 0);
        x.pulses(0, 1, 57_201 + 7259, 0);
        Due.number("gap 0 as before", x.gap(0, 0, 0), 2);
        Due.number("gap 1: the row", x.gap(0, 1, 0), 4);
        Due.number("gap 1: whole minutes", x.gap(0, 1, 1), 120);
        x.pulses(0, 1, TRILLION, 0);
        Due.number("gap 2: the row", x.gap(0, 2, 0), 5);
        Due.number("gap 2: at most so many minutes", x.gap(0, 2, 1), Integer.MAX_VALUE);
        for (int k : new int[] {3, -1, Integer.MIN_VALUE, Integer.MAX_VALUE}) {
            Due.number("gap " + k, x.gap(0, k, 0), -1);
            Due.number("minutes of gap " + k, x.gap(0, k, 1), -1);
        }
        for (int what : new int[] {-1, 2, Integer.MIN_VALUE, Integer.MAX_VALUE}) {
            Due.number("what " + what, x.gap(0, 0, what), -1);
        }
        MeterSeals most = plain();
        long minutes = Integer.MAX_VALUE;
        most.pulses(0, 1, 0, 0);
        most.pulses(0, 1, minutes * 60 - 1, 0);
        most.pulses(0, 1, minutes * 120 - 1, 0);
        most.pulses(0, 1, minutes * 180 + 59, 0);
        Due.number("one minute less than the most", most.gap(0, 0, 1), minutes - 1);
        Due.number("the most minutes", most.gap(0, 1, 1), minutes);
        Due.number("one minute more than the most", most.gap(0, 2, 1), minutes);
    }

    private static void promise11GapBetweenReadings() {
        MeterSeals x = plain();
        x.reset(0, 999_999);
        x.pulses(0, 1, 0, 0);
        x.reset(0, 999_999);
        x.seal(0, 1, false);
        x.pulses(0, 1, 6000, 0);
        x.seal(0, 1, true);
        x.pulses(0, 1, 6001, 0);
        x.reset(0, 0);
        Due.number("other rows between: the row of the next reading", x.gap(0, 0, 0), 4);
        Due.number("other rows between: minutes", x.gap(0, 0, 1), 100);
        Due.number("one gap alone", x.gap(0, 1, 0), -1);
    }

    private static void promise12Rest() {
        MeterSeals x = plain();
        Due.number("no readings", x.rest(0, 0), 0);
        Due.number("no readings, a tank", x.rest(0, 3), -3000);
        Due.number("the most litres", x.rest(0, 1_000_000_000L), -TRILLION);
        for (long litres : new long[] {-1, 1_000_000_001L, Long.MIN_VALUE, Long.MAX_VALUE}) {
            Due.number("litres " + litres, x.rest(0, litres), Long.MIN_VALUE);
        }
        x.row(0, 0, 1, 3);
        x.pulses(0, 1, 0, 0);
        x.pulses(0, 1, 0, 0);
        x.pulses(0, 2, 0, 0);
        Due.number("333 + 333 + 666", x.rest(0, 0), 1332);
        x.reset(0, 5000);
        x.seal(0, 999, false);
        x.seal(0, 999, true);
        Due.number("other rows have no litres", x.rest(0, 1), 332);
        x.poke(0, 0, 2);
        Due.number("pulses as they are now", x.rest(0, 1), 999);
        x.row(0, 0, 2, 1);
        Due.number("the table as it is now", x.rest(0, 12), 0);
        MeterSeals most = plain();
        most.row(0, 0, 10_000, 1);
        for (int i = 0; i < 200; i++) {
            most.pulses(0, 1_000_000, 0, 0);
        }
        Due.number("the most of all", most.rest(0, 0), 2_000_000_000_000_000L);
    }

    private static void promise13Reset() {
        MeterSeals x = new MeterSeals();
        x.meter(3);
        for (long v : new long[] {-1, TRILLION + 1, Long.MIN_VALUE, Long.MAX_VALUE}) {
            Due.not("reset to " + v, x.reset(0, v));
        }
        Due.is("to 0, without lines", x.reset(0, 0));
        Due.is("to the most", x.reset(0, TRILLION));
        Due.number("rows", x.rows(0), 2);
        Due.same("roll", Due.roll(x, 0), "Z 0\nZ 1000000000000\n");
        x.row(0, 0, 1, 1);
        Due.is("a reset is no second", x.pulses(0, 1, 0, 0));
        MeterSeals full = fullRows();
        Due.not("reset 200", full.reset(0, 0));
        Due.number("rows", full.rows(0), 200);
    }

    private static void promise14Roll() {
        MeterSeals x = plain();
        Due.same("no rows", Due.roll(x, 0), "");
        x.pulses(0, 0, 0, -50);
        x.seal(0, 1, false);
        x.pulses(0, 1_000_000, TRILLION, 150);
        x.reset(0, 90);
        x.seal(0, 999, true);
        x.pulses(0, 12, TRILLION, -9);
        x.reset(0, 100);
        x.poke(0, 0, 105);
        Due.same("all kinds", Due.roll(x, 0),
            "R 105 0 -50\nB 1 *\nR 1000000 1000000000000 150 *\nZ 90 *\nS 999 *\n"
            + "R 12 1000000000000 -9\nZ 100\n");
        for (int i : new int[] {-1, Integer.MIN_VALUE, Integer.MAX_VALUE}) {
            Due.number("byte " + i, x.roll(0, i), -1);
        }
        Due.number("of no meter", x.roll(1, 0), -1);
        rollOfFullRows();
    }

    private static void rollOfFullRows() {
        MeterSeals x = plain();
        x.seal(0, 999, false);
        StringBuilder text = new StringBuilder("B 999 *\n");
        for (int i = 1; i < 200; i++) {
            x.pulses(0, 1_000_000, TRILLION, -50);
            text.append("R 1000000 1000000000000 -50 *\n");
        }
        for (int i = 0; i < text.length(); i += 23) {
            Due.number("byte " + i, x.roll(0, i), text.charAt(i));
        }
        Due.number("the last byte", x.roll(0, text.length() - 1), '\n');
        Due.number("behind it", x.roll(0, text.length()), -1);
    }
}
