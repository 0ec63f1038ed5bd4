/** The boundary cases that the document's promises name, each in a story of its own. */
public final class PromiseBoundsTest {
    private static final String METER = "meter 77 = 0";
    private static final String PLAIN = METER + "; row 0 0 1 1 = true";
    private static final String FULL_ROWS = PLAIN + "; 200 * pulses 0 1 9 0 = true";
    /** Rows 0 to 4: a reading of 10 pulses, a reset, a broken and a set seal, a reading of 20. */
    private static final String ALL_KINDS = PLAIN + "; pulses 0 10 5 0 = true; reset 0 3 = true;"
        + " break 0 4 = true; set 0 6 = true; pulses 0 20 5 0 = true";
    private static final String OUTSIDE = Due.ROW_OUTSIDE;
    private static final String LEAST = String.valueOf(Long.MIN_VALUE);

    public static void main(String[] args) {
        promise1NoMeters();
        promise2NumberOrFull();
        promise3Refused();
        promise4InThePlaceOrRefused();
        promise5ReducedFraction();
        promise5NoneOrThrown();
        promise6RowsOrNone();
        promise7FirstWrong();
        promise7FromOutside();
        promise8PulsesInTheirRange();
        promise8NoReading();
        promise9Refused();
        promise10NoRow();
        promise11MoreThanAnHour();
        promise11WholeMinutes();
        promise11None();
        promise12WholeThousandths();
        promise12LitresInATank();
        promise13Refused();
        promise14Lines();
        promise14None();
        Due.end("PromiseBoundsTest");
    }

    private static String[] words(String text) {
        return text.split(" ");
    }

    /** "No meters." */
    private static void promise1NoMeters() {
        for (String none : words("0 -1 1 7 8 least most")) {
            Story.tell("a new object has no meter " + none, "rows " + none + " = -1",
                "pulses " + none + " 1 1 1 = false; row " + none + " 1 1 1 = false",
                "litres " + none + " 0 0 = -1; litres " + none + " 0 1 = -1",
                "check " + none + " 0 = -1; poke " + none + " 0 0 = false; break " + none + " 1 = false",
                "set " + none + " 1 = false; marked " + none + " 0 = false; gap " + none + " 0 0 = -1",
                "gap " + none + " 0 1 = -1; rest " + none + " 0 = " + LEAST,
                "reset " + none + " 0 = false; roll " + none + " 0 = -1; meter 5 = 0; rows 0 = 0");
        }
        Story.tell("an object that is full ..", eightMeters(), "meter 5 = -2");
        Story.tell(".. leaves the next one empty", "rows 0 = -1; meter 5 = 0; rows 1 = -1");
    }

    private static String eightMeters() {
        return "meter 5 = 0; meter 4 = 1; meter 3 = 2; meter 2 = 3; meter 1 = 4; meter 0 = 5;"
            + " meter -1 = 6; meter -2 = 7";
    }

    /** "A meter with a key, without lines and rows: its number; FULL." */
    private static void promise2NumberOrFull() {
        for (String key : words("0 1 -1 least most")) {
            Story.tell("a meter with the key " + key, "meter " + key + " = 0; rows 0 = 0",
                "pulses 0 1 0 0 = false; roll 0 0 = -1; check 0 0 = 0; gap 0 0 0 = -1; rest 0 0 = 0");
            Story.tell("no ninth with the key " + key, eightMeters(), "reset 0 4 = true; break 7 4 = true",
                "meter " + key + " = -2; rows 0 = 1; rows 7 = 1; rows 8 = -1; meter " + key + " = -2");
        }
        Story.tell("the same key again is another meter", "meter 5 = 0; meter 5 = 1; reset 0 1 = true",
            "rows 0 = 1; rows 1 = 0");
        Story.tell("a meter that comes later has no lines", PLAIN, "meter 77 = 1",
            "pulses 1 1 0 0 = false; pulses 0 1 0 0 = true; rows 1 = 0");
        Story.tell("a refused call takes no number", METER, "pulses 1 1 0 0 = false; row 1 0 1 1 = false",
            "reset 1 1 = false; meter 5 = 1");
    }

    /** "There is no such meter, it has no line, a number is out of its range, the second .., 200 rows." */
    private static void promise3Refused() {
        for (String none : words("-1 1 least most")) {
            Story.tell("a reading of no meter " + none, PLAIN, "pulses " + none + " 1 0 0 = false",
                "rows 0 = 0");
        }
        Story.tell("without a line", METER, "pulses 0 1 0 0 = false; rows 0 = 0; reset 0 1 = true",
            "pulses 0 1 0 0 = false; rows 0 = 1; row 0 0 1 1 = true; pulses 0 1 0 0 = true");
        Story.tell("a refused line is none", METER, "row 0 0 0 1 = false; pulses 0 1 0 0 = false",
            "row 0 151 1 1 = false; pulses 0 1 0 150 = false; rows 0 = 0");
        Story.tell("another meter's line is none", PLAIN, "meter 5 = 1; pulses 1 1 0 0 = false");
        Story.tell("a line at any degrees is enough", METER, "row 0 150 1 1 = true",
            "pulses 0 1 0 -50 = true; rows 0 = 1");
        Story.tell("the least of each number", PLAIN, "pulses 0 0 0 -50 = true; text 0 = R 0 0 -50/");
        Story.tell("the most of each number", PLAIN, "pulses 0 1_000_000 1_000_000_000_000 150 = true",
            "text 0 = R 1000000 1000000000000 150/");
        Story.tell("a broken seal refuses none", PLAIN, "break 0 1 = true; pulses 0 1 0 0 = true");
        for (String call : words("pulses/0/1/9/0 pulses/0/0/1000000000000/150 pulses/0/1000000/9/-50")) {
            Story.tell("a reading behind 200 rows", FULL_ROWS, call.replace('/', ' ') + " = false",
                "rows 0 = 200; check 0 0 = 0; rest 0 0 = 200000");
        }
        Story.tell("a reading behind 200 other rows", PLAIN, "200 * reset 0 1 = true",
            "pulses 0 1 0 0 = false; rows 0 = 200");
    }

    /** "In the place of one of the same degrees (-50 to 150) .. or there are 16 others." */
    private static void promise4InThePlaceOrRefused() {
        for (String none : words("-1 1 least most")) {
            Story.tell("a line of no meter " + none, METER, "row " + none + " 0 1 1 = false",
                "pulses 0 1 0 0 = false");
        }
        for (String inside : words("-50 -49 149 150")) {
            Story.tell("a line at " + inside, METER, "row 0 " + inside + " 5 7 = true",
                "pulses 0 1 0 " + inside + " = true; fraction 0 0 = 5/7",
                "row 0 " + inside + " 7 5 = true; fraction 0 0 = 7/5");
        }
        for (String outside : words("-51 151 206 -306 least most")) {
            Story.tell("a line at " + outside, METER, "row 0 " + outside + " 1 1 = false",
                "pulses 0 1 0 0 = false; row 0 0 3 2 = true; pulses 0 1 0 150 = true",
                "pulses 0 1 0 -50 = true; row 0 " + outside + " 1 1 = false",
                "fraction 0 0 = 3/2; fraction 0 1 = 3/2");
        }
        String fifteen = METER;
        for (int i = 0; i < 15; i++) {
            fifteen += "; row 0 " + i + " " + (i + 1) + " 1 = true";
        }
        Story.tell("beside 15 others", fifteen, "row 0 15 16 1 = true; pulses 0 1 0 15 = true",
            "fraction 0 0 = 16/1");
        Story.tell("beside 16 others", fifteen, "row 0 -50 16 1 = true; row 0 15 1 1 = false",
            "row 0 150 1 1 = false; row 0 -49 1 1 = false; pulses 0 1 0 150 = true",
            "pulses 0 1 0 -49 = true; fraction 0 0 = 15/1; fraction 0 1 = 16/1");
        Story.tell("in the place of one, beside 15 others", fifteen, "row 0 150 16 1 = true",
            "row 0 150 3 2 = true; row 0 0 5 2 = true; row 0 14 7 2 = true; pulses 0 1 0 150 = true",
            "pulses 0 1 0 0 = true; pulses 0 1 0 14 = true; fraction 0 0 = 3/2; fraction 0 1 = 5/2",
            "fraction 0 2 = 7/2; row 0 15 1 1 = false");
        Story.tell("in the place of one, out of range", fifteen, "row 0 150 16 1 = true",
            "pulses 0 1 0 150 = true; row 0 150 0 1 = false; row 0 150 1 10_001 = false",
            "fraction 0 0 = 16/1");
        Story.tell("a line is no row", PLAIN, "rows 0 = 0; roll 0 0 = -1");
        Story.tell("a line comes behind 200 rows too", FULL_ROWS, "row 0 5 9 1 = true",
            "row 0 0 3 1 = true; fraction 0 199 = 3/1; rest 0 0 = 600000");
    }

    /** "A reduced fraction: above (part 0), below (part 1); of other rows 0 and 1." */
    private static void promise5ReducedFraction() {
        String[] fractions = {
            "0 1 1 = 0/1", "0 10000 9999 = 0/1", "0 1 10000 = 0/1", "1 1 1 = 1/1", "1 1 10000 = 1/10000",
            "1 10000 1 = 10000/1", "1 10000 10000 = 1/1", "1 9999 10000 = 9999/10000",
            "1 10000 9999 = 10000/9999", "1 6 4 = 3/2", "2 3 4 = 3/2", "4 1 2 = 2/1", "3 5 7 = 15/7",
            "1000000 10000 1 = 10000000000/1", "1000000 10000 10000 = 1000000/1",
            "1000000 1 10000 = 100/1", "1000000 9999 10000 = 999900/1", "1000000 1 9999 = 1000000/9999",
            "999999 10000 9999 = 101010000/101", "999999 1 10000 = 999999/10000",
            "999999 9999 10000 = 9998990001/10000", "429497 10000 1 = 4294970000/1",
        };
        for (String fraction : fractions) {
            String[] parts = fraction.split(" ", 4);
            Story.tell("litres " + fraction, METER, "row 0 0 " + parts[1] + " " + parts[2] + " = true",
                "pulses 0 " + parts[0] + " 0 0 = true; fraction 0 0 " + parts[3]);
        }
        Story.tell("of other rows", METER, "row 0 0 7 3 = true; reset 0 1_000_000 = true",
            "break 0 999 = true; set 0 999 = true; reset 0 0 = true; fraction 0 0 = 0/1",
            "fraction 0 1 = 0/1; fraction 0 2 = 0/1; fraction 0 3 = 0/1");
        Story.tell("of other rows, without a line", METER, "reset 0 5 = true; break 0 5 = true",
            "set 0 5 = true; fraction 0 0 = 0/1; fraction 0 1 = 0/1; fraction 0 2 = 0/1");
        Story.tell("by the table as it is now", PLAIN, "pulses 0 6 0 20 = true; fraction 0 0 = 6/1",
            "row 0 0 1 4 = true; fraction 0 0 = 3/2; row 0 20 1 9 = true; fraction 0 0 = 2/3",
            "row 0 21 1 7 = true; fraction 0 0 = 2/3");
        Story.tell("of pulses as they are now", PLAIN, "pulses 0 6 0 20 = true; poke 0 0 -6 = true",
            "fraction 0 0 = 0/1; poke 0 0 1_000_000 = true; fraction 0 0 = 1000000/1");
    }

    /** "NONE when there is no such meter, or for another part. A row outside is thrown." */
    private static void promise5NoneOrThrown() {
        for (String none : words("-1 1 least most")) {
            for (String row : words("-1 0 4 5 least most")) {
                Story.tell("no meter " + none + ", row " + row, ALL_KINDS,
                    "litres " + none + " " + row + " 0 = -1; litres " + none + " " + row + " 1 = -1");
            }
        }
        for (String part : words("-1 2 256 least most")) {
            Story.tell("part " + part, ALL_KINDS, "litres 0 0 " + part + " = -1",
                "litres 0 1 " + part + " = -1; litres 0 2 " + part + " = -1; litres 0 3 " + part + " = -1",
                "litres 0 4 " + part + " = -1");
            Story.tell("part " + part + " of a row outside", ALL_KINDS, "litres 0 -1 " + part + " = -1",
                "litres 0 5 " + part + " = -1; litres 1 0 " + part + " = -1");
        }
        for (String row : words("-1 5 200 256 least most")) {
            Story.tell("row " + row + " outside", ALL_KINDS, "litres 0 " + row + " 0 = " + OUTSIDE,
                "litres 0 " + row + " 1 = " + OUTSIDE + "; fraction 0 4 = 20/1; fraction 0 0 = 10/1");
        }
        for (String row : words("-1 0 1 least most")) {
            Story.tell("row " + row + " of no rows", PLAIN, "litres 0 " + row + " 0 = " + OUTSIDE,
                "litres 0 " + row + " 1 = " + OUTSIDE);
            Story.tell("row " + row + " of no rows and lines", METER, "litres 0 " + row + " 0 = " + OUTSIDE,
                "litres 0 " + row + " 1 = " + OUTSIDE);
        }
        for (String row : words("-1 200 least most")) {
            Story.tell("row " + row + " of 200", FULL_ROWS, "litres 0 " + row + " 0 = " + OUTSIDE,
                "litres 0 " + row + " 1 = " + OUTSIDE + "; fraction 0 199 = 1/1; fraction 0 0 = 1/1");
        }
    }

    /** "How many rows a meter has; NONE." */
    private static void promise6RowsOrNone() {
        for (String none : words("-1 1 8 least most")) {
            Story.tell("rows of no meter " + none, ALL_KINDS, "rows " + none + " = -1; rows 0 = 5");
        }
        Story.tell("of an empty meter", METER, "rows 0 = 0");
        Story.tell("of a full one", FULL_ROWS, "rows 0 = 200; reset 0 1 = false; rows 0 = 200");
        Story.tell("each kind is one", PLAIN, "pulses 0 1 0 0 = true; rows 0 = 1; reset 0 1 = true",
            "rows 0 = 2; break 0 1 = true; rows 0 = 3; set 0 1 = true; rows 0 = 4",
            "poke 0 0 1 = true; rows 0 = 4; row 0 9 1 1 = true; rows 0 = 4");
    }

    /** "0 when all have the sum that is theirs, else 1 and the number of the first that has not." */
    private static void promise7FirstWrong() {
        Story.tell("no rows", METER, "check 0 0 = 0");
        Story.tell("all are right", ALL_KINDS, "check 0 0 = 0; check 0 1 = 0; check 0 4 = 0; check 0 5 = 0");
        Story.tell("the first is wrong", ALL_KINDS, "poke 0 0 1 = true; check 0 0 = 1; check 0 1 = 0");
        Story.tell("the last is wrong", ALL_KINDS, "poke 0 4 -1 = true; check 0 0 = 5; check 0 4 = 5",
            "check 0 5 = 0");
        Story.tell("both are wrong", ALL_KINDS, "poke 0 4 -1 = true; poke 0 0 1 = true; check 0 0 = 1",
            "check 0 1 = 5; check 0 4 = 5; check 0 5 = 0");
        Story.tell("one alone is wrong", PLAIN, "pulses 0 1 0 0 = true; poke 0 0 1 = true",
            "check 0 0 = 1; check 0 1 = 0");
        Story.tell("wrong and right again", ALL_KINDS, "poke 0 0 1 = true; poke 0 0 -1 = true",
            "check 0 0 = 0; poke 0 0 0 = true; check 0 0 = 0");
        Story.tell("rows behind a wrong one go by the sum that stands", ALL_KINDS, "poke 0 4 1 = true",
            "pulses 0 1 5 0 = true; reset 0 1 = true; check 0 0 = 5; check 0 5 = 0; poke 0 4 -1 = true",
            "check 0 0 = 0");
        Story.tell("the first of 200 is wrong", FULL_ROWS, "poke 0 0 1 = true; check 0 0 = 1; check 0 1 = 0");
        Story.tell("the last of 200 is wrong", FULL_ROWS, "poke 0 199 1 = true; check 0 0 = 200",
            "check 0 199 = 200; check 0 200 = 0");
        Story.tell("another meter's are right", ALL_KINDS, "meter 77 = 1; row 1 0 1 1 = true",
            "pulses 1 10 5 0 = true; poke 0 0 1 = true; check 1 0 = 0; check 0 0 = 1");
    }

    /** "NONE when there is no such meter, or from is not 0 to the number of rows." */
    private static void promise7FromOutside() {
        for (String none : words("-1 1 least most")) {
            Story.tell("check of no meter " + none, ALL_KINDS, "check " + none + " 0 = -1");
        }
        for (String from : words("-1 6 200 least most")) {
            Story.tell("from " + from, ALL_KINDS, "check 0 " + from + " = -1; poke 0 4 1 = true",
                "check 0 " + from + " = -1");
        }
        for (String from : words("-1 1 least most")) {
            Story.tell("from " + from + " of no rows", PLAIN, "check 0 " + from + " = -1");
        }
        for (String from : words("-1 201 least most")) {
            Story.tell("from " + from + " of 200", FULL_ROWS, "check 0 " + from + " = -1; check 0 200 = 0");
        }
    }

    /** "The pulses .. become so many more .. refused, when .. the pulses would be out of their range." */
    private static void promise8PulsesInTheirRange() {
        for (String by : words("-11 999991 4294967296 -4294967296 9223372036854775797 least most")) {
            Story.tell("10 pulses and " + by, ALL_KINDS, "poke 0 0 " + by + " = false; fraction 0 0 = 10/1",
                "check 0 0 = 0; rest 0 0 = 30000");
        }
        Story.tell("10 pulses less all", ALL_KINDS, "poke 0 0 -10 = true; fraction 0 0 = 0/1",
            "check 0 0 = 1; rest 0 0 = 20000");
        Story.tell("10 pulses to the most", ALL_KINDS, "poke 0 0 999_990 = true",
            "fraction 0 0 = 1000000/1; check 0 0 = 1; rest 0 0 = 1000020000");
        Story.tell("by nothing", ALL_KINDS, "poke 0 0 0 = true; fraction 0 0 = 10/1; check 0 0 = 0");
        for (String by : words("-1 1000001 4294967296 least most")) {
            Story.tell("no pulses and " + by, PLAIN, "pulses 0 0 5 0 = true; poke 0 0 " + by + " = false",
                "fraction 0 0 = 0/1; check 0 0 = 0");
        }
        Story.tell("no pulses to the most", PLAIN, "pulses 0 0 5 0 = true; poke 0 0 1_000_000 = true",
            "fraction 0 0 = 1000000/1");
        for (String by : words("1 -1000001 9223372036853775807 9223372036853775806 least most")) {
            Story.tell("the most pulses and " + by, PLAIN, "pulses 0 1_000_000 5 0 = true",
                "poke 0 0 " + by + " = false; fraction 0 0 = 1000000/1; check 0 0 = 0");
        }
        Story.tell("the most pulses less all", PLAIN, "pulses 0 1_000_000 5 0 = true",
            "poke 0 0 -1_000_000 = true; fraction 0 0 = 0/1");
        Story.tell("poked twice", ALL_KINDS, "poke 0 0 999_990 = true; poke 0 0 1 = false",
            "poke 0 0 -1_000_000 = true; poke 0 0 -1 = false; poke 0 0 10 = true; check 0 0 = 0");
        Story.tell("the second, the degrees and the mark stay", ALL_KINDS, "poke 0 4 5 = true",
            "text 0 = R 10 5 0/Z 3/B 4 */S 6 */R 25 5 0/");
        Story.tell("of a marked reading", PLAIN, "break 0 1 = true; pulses 0 1 0 0 = true",
            "poke 0 1 5 = true; marked 0 1 = true; check 0 0 = 2; text 0 = B 1 */R 6 0 0 */");
    }

    /** "Refused, when there is no such meter, the row is no reading." */
    private static void promise8NoReading() {
        for (String none : words("-1 1 least most")) {
            Story.tell("poke of no meter " + none, ALL_KINDS, "poke " + none + " 0 0 = false",
                "poke " + none + " 0 1 = false");
        }
        for (String row : words("1 2 3 5 -1 200 256 least most")) {
            Story.tell("row " + row + " is no reading", ALL_KINDS, "poke 0 " + row + " 0 = false",
                "poke 0 " + row + " 1 = false; poke 0 " + row + " -1 = false; check 0 0 = 0",
                "text 0 = R 10 5 0/Z 3/B 4 */S 6 */R 20 5 0/");
        }
        for (String row : words("0 -1 1 least most")) {
            Story.tell("row " + row + " of no rows", PLAIN, "poke 0 " + row + " 0 = false",
                "poke 0 " + row + " 1 = false; rows 0 = 0");
        }
        for (String row : words("-1 200 least most")) {
            Story.tell("row " + row + " of 200", FULL_ROWS, "poke 0 " + row + " 1 = false; check 0 0 = 0");
        }
        Story.tell("the first and the last of 200", FULL_ROWS, "poke 0 0 1 = true; poke 0 199 2 = true",
            "fraction 0 0 = 2/1; fraction 0 199 = 3/1; fraction 0 1 = 1/1; rest 0 0 = 203000");
    }

    /** "Refused, when there is no such meter or person, it is so already, or there are 200 rows." */
    private static void promise9Refused() {
        for (String none : words("-1 1 least most")) {
            Story.tell("the seal of no meter " + none, METER, "break " + none + " 1 = false",
                "set " + none + " 1 = false; break 0 1 = true; set " + none + " 1 = false; rows 0 = 1");
        }
        Story.tell("set already", METER, "set 0 1 = false; set 0 999 = false; rows 0 = 0; break 0 1 = true");
        Story.tell("broken already", METER, "break 0 1 = true; break 0 1 = false; break 0 2 = false",
            "rows 0 = 1; set 0 1 = true");
        Story.tell("set again already", METER, "break 0 1 = true; set 0 2 = true; set 0 2 = false",
            "set 0 1 = false; rows 0 = 2; break 0 1 = true; rows 0 = 3");
        Story.tell("another person may set it", METER, "break 0 1 = true; set 0 999 = true",
            "text 0 = B 1 */S 999 */");
        Story.tell("a refused break leaves it set", METER, "break 0 0 = false; break 0 1000 = false",
            "set 0 1 = false; reset 0 1 = true; marked 0 0 = false");
        Story.tell("a refused set leaves it broken", METER, "break 0 1 = true; set 0 0 = false",
            "set 0 1000 = false; break 0 1 = false; reset 0 1 = true; marked 0 1 = true");
        Story.tell("it is each meter's own", METER, "meter 5 = 1; break 0 1 = true; set 1 1 = false",
            "break 1 1 = true; set 0 1 = true; break 1 1 = false");
        Story.tell("no break behind 200 rows", FULL_ROWS, "break 0 1 = false; set 0 1 = false",
            "marked 0 199 = false; rows 0 = 200");
        Story.tell("no set behind 200 rows", PLAIN, "break 0 1 = true; 199 * reset 0 1 = true",
            "set 0 1 = false; break 0 1 = false; marked 0 199 = true; rows 0 = 200");
        Story.tell("a break as row 199", PLAIN, "199 * reset 0 1 = true; break 0 7 = true; set 0 7 = false",
            "marked 0 198 = false; marked 0 199 = true; rows 0 = 200; check 0 0 = 0");
    }

    /** "False when there is none." */
    private static void promise10NoRow() {
        String marked = METER + "; break 0 1 = true; reset 0 1 = true";
        for (String none : words("-1 1 least most")) {
            Story.tell("of no meter " + none, marked, "marked " + none + " 0 = false; marked 0 0 = true");
        }
        for (String row : words("-1 2 200 256 least most")) {
            Story.tell("no row " + row, marked, "marked 0 " + row + " = false; marked 0 1 = true");
        }
        for (String row : words("-1 0 least most")) {
            Story.tell("no row " + row + " of none", METER, "marked 0 " + row + " = false");
        }
        String full = METER + "; break 0 1 = true; 199 * reset 0 1 = true";
        for (String row : words("-1 200 least most")) {
            Story.tell("no row " + row + " of 200", full, "marked 0 " + row + " = false",
                "marked 0 0 = true; marked 0 199 = true");
        }
    }

    /** "Between a reading and the next one that are more than 3,600 seconds: the row behind it." */
    private static void promise11MoreThanAnHour() {
        for (String none : words("0 1 3599 3600")) {
            Story.tell(none + " seconds are no gap", PLAIN, "pulses 0 1 0 0 = true",
                "pulses 0 1 " + none + " 0 = true; gap 0 0 0 = -1; gap 0 0 1 = -1");
        }
        for (String more : words("3601 3602 1000000000000")) {
            Story.tell(more + " seconds are a gap", PLAIN, "pulses 0 1 0 0 = true",
                "pulses 0 1 " + more + " 0 = true; gap 0 0 0 = 1; gap 0 1 0 = -1; gap 0 1 1 = -1");
        }
        Story.tell("from another second than 0", PLAIN, "pulses 0 1 1000 0 = true",
            "pulses 0 1 4600 0 = true; gap 0 0 0 = -1; pulses 0 1 8201 0 = true; gap 0 0 0 = 2");
        Story.tell("none before the first reading", PLAIN, "pulses 0 1 1_000_000 0 = true",
            "gap 0 0 0 = -1; gap 0 0 1 = -1");
        Story.tell("none behind the last reading", PLAIN, "pulses 0 1 0 0 = true",
            "reset 0 1_000_000 = true; break 0 1 = true; gap 0 0 0 = -1");
        Story.tell("two small steps are no gap", PLAIN, "pulses 0 1 0 0 = true; pulses 0 1 3600 0 = true",
            "pulses 0 1 7200 0 = true; gap 0 0 0 = -1");
        Story.tell("other rows between", PLAIN, "reset 0 9 = true; pulses 0 1 0 0 = true; reset 0 9 = true",
            "break 0 9 = true; pulses 0 1 3601 0 = true; set 0 9 = true; pulses 0 1 7201 0 = true",
            "gap 0 0 0 = 4; gap 0 0 1 = 60; gap 0 1 0 = -1");
        Story.tell("the row behind it is the last of 200", PLAIN, "199 * pulses 0 1 0 0 = true",
            "pulses 0 1 3601 0 = true; gap 0 0 0 = 199; gap 0 0 1 = 60; gap 0 1 0 = -1");
        String gaps = PLAIN;
        for (int i = 0; i < 200; i++) {
            gaps += "; pulses 0 1 " + 3601L * i + " 0 = true";
        }
        Story.tell("199 gaps", gaps, "gap 0 0 0 = 1; gap 0 198 0 = 199; gap 0 198 1 = 60; gap 0 199 0 = -1",
            "gap 0 199 1 = -1");
    }

    /** "Its whole minutes, at most 2,147,483,647." */
    private static void promise11WholeMinutes() {
        String[] seconds = {
            "3601 60", "3659 60", "3660 61", "3719 61", "3720 62", "7199 119", "7200 120",
            "128849018759 2147483645", "128849018760 2147483646", "128849018819 2147483646",
            "128849018820 2147483647", "128849018879 2147483647", "128849018880 2147483647",
            "257698037760 2147483647", "999999999999 2147483647", "1000000000000 2147483647",
        };
        for (String pair : seconds) {
            String[] parts = words(pair);
            Story.tell(parts[0] + " seconds", PLAIN, "pulses 0 1 0 0 = true",
                "pulses 0 1 " + parts[0] + " 0 = true; gap 0 0 1 = " + parts[1] + "; gap 0 0 0 = 1");
        }
        Story.tell("from another second than 0", PLAIN, "pulses 0 1 59 0 = true",
            "pulses 0 1 3718 0 = true; pulses 0 1 7378 0 = true; gap 0 0 1 = 60; gap 0 1 1 = 61");
    }

    /** "NONE": no such meter, gap or what. */
    private static void promise11None() {
        String two = PLAIN + "; pulses 0 1 0 0 = true; pulses 0 1 4000 0 = true; pulses 0 1 9000 0 = true";
        for (String none : words("-1 1 least most")) {
            Story.tell("gap of no meter " + none, two, "gap " + none + " 0 0 = -1; gap " + none + " 0 1 = -1");
        }
        for (String k : words("-1 2 256 least most")) {
            Story.tell("gap " + k + " of two", two, "gap 0 " + k + " 0 = -1; gap 0 " + k + " 1 = -1",
                "gap 0 0 0 = 1; gap 0 1 0 = 2");
        }
        for (String what : words("-1 2 256 least most")) {
            Story.tell("what " + what, two, "gap 0 0 " + what + " = -1; gap 0 1 " + what + " = -1");
        }
        for (String k : words("-1 0 1 least most")) {
            Story.tell("gap " + k + " of no rows", PLAIN, "gap 0 " + k + " 0 = -1; gap 0 " + k + " 1 = -1");
        }
        Story.tell("one reading alone", PLAIN, "pulses 0 1 9000 0 = true; gap 0 0 0 = -1; gap 0 0 1 = -1");
        Story.tell("no reading", PLAIN, "reset 0 9000 = true; reset 0 99999 = true; gap 0 0 0 = -1");
    }

    /** "The thousandths of litres of all readings, whole ones of each." */
    private static void promise12WholeThousandths() {
        String[] lines = {
            "1 1/1 1000", "1 1/3 333", "2 1/3 666", "3 1/3 1000", "1 1/1000 1", "1 1/1001 0", "1 1/10000 0",
            "9 1/10000 0", "10 1/10000 1", "19 1/10000 1", "1 9999/10000 999", "0 10000/1 0",
            "1000000 10000/1 10000000000000", "1000000 9999/10000 999900000",
            "999999 10000/9999 1000099009",
        };
        for (String line : lines) {
            String[] parts = words(line);
            String start = METER + "; row 0 0 " + parts[1].replace('/', ' ') + " = true";
            Story.tell("thousandths " + line, start, "pulses 0 " + parts[0] + " 0 0 = true",
                "rest 0 0 = " + parts[2]);
        }
        Story.tell("each is cut by itself", METER, "row 0 0 1 3 = true; 3 * pulses 0 1 0 0 = true",
            "rest 0 0 = 999; 3 * pulses 0 2 0 0 = true; rest 0 0 = 2997");
        Story.tell("200 readings, none has a whole one", METER, "row 0 0 1 10_000 = true",
            "200 * pulses 0 9 0 0 = true; rest 0 0 = 0; rest 0 1 = -1000");
        Story.tell("200 readings of the most", METER, "row 0 0 10_000 1 = true",
            "200 * pulses 0 1_000_000 0 0 = true; rest 0 0 = 2000000000000000",
            "rest 0 1_000_000_000 = 1999000000000000");
        Story.tell("no rows", METER, "rest 0 0 = 0");
        Story.tell("other rows have none", METER, "reset 0 1_000_000 = true; break 0 999 = true",
            "set 0 999 = true; rest 0 0 = 0; row 0 0 5 1 = true; rest 0 0 = 0");
        Story.tell("each by its degrees, as all is now", METER, "row 0 0 1 1 = true; row 0 10 2 1 = true",
            "pulses 0 1 0 9 = true; pulses 0 1 0 10 = true; rest 0 0 = 3000; row 0 9 7 1 = true",
            "rest 0 0 = 9000; poke 0 1 2 = true; rest 0 0 = 13000");
    }

    /** "Less those of so many litres in a tank (0 to 1,000,000,000). The least long when ..." */
    private static void promise12LitresInATank() {
        String ten = PLAIN + "; pulses 0 10 0 0 = true";
        String[] tanks = {
            "0 10000", "1 9000", "9 1000", "10 0", "11 -1000", "4294968 -4294958000",
            "999999999 -999999989000", "1000000000 -999999990000",
        };
        for (String tank : tanks) {
            String[] parts = words(tank);
            Story.tell(parts[0] + " litres", ten, "rest 0 " + parts[0] + " = " + parts[1]);
        }
        Story.tell("the most litres of an empty meter", METER, "rest 0 1_000_000_000 = -1000000000000");
        for (String litres : words("-1 1000000001 4294967296 least most")) {
            Story.tell(litres + " litres", ten, "rest 0 " + litres + " = " + LEAST + "; rest 0 0 = 10000");
        }
        for (String none : words("-1 1 least most")) {
            Story.tell("rest of no meter " + none, ten, "rest " + none + " 0 = " + LEAST,
                "rest " + none + " 10 = " + LEAST + "; rest " + none + " -1 = " + LEAST);
        }
    }

    /** "Refused, when there is no such meter, the number is out of its range, or there are 200 rows." */
    private static void promise13Refused() {
        for (String none : words("-1 1 least most")) {
            Story.tell("a reset of no meter " + none, METER, "reset " + none + " 0 = false; rows 0 = 0");
        }
        for (String outside : words("-1 1000000000001 least most")) {
            Story.tell("to " + outside, ALL_KINDS, "reset 0 " + outside + " = false; rows 0 = 5");
        }
        for (String inside : words("0 1000000000000")) {
            Story.tell("to " + inside, METER, "reset 0 " + inside + " = true; text 0 = Z " + inside + "/");
            Story.tell("to " + inside + " behind 200 rows", FULL_ROWS, "reset 0 " + inside + " = false",
                "rows 0 = 200; check 0 0 = 0");
        }
        Story.tell("the 200th row", PLAIN, "199 * pulses 0 1 0 0 = true; reset 0 8 = true; rows 0 = 200",
            "reset 0 8 = false; fraction 0 199 = 0/1; check 0 0 = 0");
        Story.tell("under a broken seal", METER, "break 0 1 = true; reset 0 8 = true; marked 0 1 = true");
        Story.tell("it changes no litres and gaps", PLAIN, "pulses 0 5 0 0 = true; reset 0 0 = true",
            "pulses 0 5 3601 0 = true; rest 0 0 = 10000; gap 0 0 0 = 2; fraction 0 2 = 5/1");
    }

    /** "Blanks between, then a blank and * when it is marked, then a line feed." */
    private static void promise14Lines() {
        Story.tell("no rows", PLAIN, "text 0 = ");
        Story.tell("the least reading", PLAIN, "pulses 0 0 0 0 = true; text 0 = R 0 0 0/");
        Story.tell("the longest reading", PLAIN, "pulses 0 1_000_000 1_000_000_000_000 -50 = true",
            "text 0 = R 1000000 1000000000000 -50/");
        Story.tell("tens and hundreds", PLAIN, "pulses 0 10 100 -10 = true; pulses 0 9 101 -9 = true",
            "pulses 0 999_999 1000 100 = true; pulses 0 100_000 99_999 99 = true",
            "text 0 = R 10 100 -10/R 9 101 -9/R 999999 1000 100/R 100000 99999 99/");
        Story.tell("each kind, not marked and marked", PLAIN, "pulses 0 1 2 3 = true; reset 0 4 = true",
            "break 0 5 = true; pulses 0 6 7 8 = true; reset 0 9 = true; set 0 10 = true",
            "pulses 0 11 12 13 = true; reset 0 14 = true",
            "text 0 = R 1 2 3/Z 4/B 5 */R 6 7 8 */Z 9 */S 10 */R 11 12 13/Z 14/");
        Story.tell("byte by byte", PLAIN, "pulses 0 1 2 -3 = true; break 0 45 = true",
            "roll 0 0 = 82; roll 0 1 = 32; roll 0 2 = 49; roll 0 3 = 32; roll 0 4 = 50; roll 0 5 = 32",
            "roll 0 6 = 45; roll 0 7 = 51; roll 0 8 = 10; roll 0 9 = 66; roll 0 10 = 32; roll 0 11 = 52",
            "roll 0 12 = 53; roll 0 13 = 32; roll 0 14 = 42; roll 0 15 = 10; roll 0 16 = -1");
        Story.tell("pulses as they are now", PLAIN, "pulses 0 9 0 0 = true; reset 0 1 = true",
            "poke 0 0 1 = true; text 0 = R 10 0 0/Z 1/; poke 0 0 -10 = true; text 0 = R 0 0 0/Z 1/");
        Story.tell("of each meter its own", METER, "meter 5 = 1; reset 0 1 = true; reset 1 2 = true",
            "text 0 = Z 1/; text 1 = Z 2/");
    }

    /** "NONE": no such meter or byte. */
    private static void promise14None() {
        String line = METER + "; reset 0 7 = true; roll 0 3 = 10";
        for (String none : words("-1 1 least most")) {
            Story.tell("the roll of no meter " + none, line, "roll " + none + " 0 = -1");
        }
        for (String i : words("-1 4 5 65536 least most")) {
            Story.tell("byte " + i, line, "roll 0 " + i + " = -1");
        }
        for (String i : words("-1 0 1 least most")) {
            Story.tell("byte " + i + " of no rows", METER, "roll 0 " + i + " = -1");
        }
        String longest = PLAIN + "; break 0 999 = true;"
            + " 199 * pulses 0 1_000_000 1_000_000_000_000 -50 = true";
        Story.tell("both ends of the longest roll", longest, "roll 0 0 = 66; roll 0 8 = 82",
            "roll 0 5976 = 42; roll 0 5977 = 10; roll 0 5978 = -1; roll 0 most = -1; roll 0 -1 = -1");
    }
}
