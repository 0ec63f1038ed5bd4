/** The boundary cases that the document's terms name, each in a story of its own. */
public final class TermsBoundsTest {
    private static final String METER = "meter 77 = 0";
    private static final String PLAIN = METER + "; row 0 0 1 1 = true";

    public static void main(String[] args) {
        callsOfOneObject();
        meters();
        rowsOfEachKind();
        sealIsSetAtFirst();
        pulsesOfReading();
        secondOfReading();
        secondNotBelowOneBefore();
        degreesOfReading();
        numberOfReset();
        person();
        linesOfTable();
        aboveAndBelow();
        lineThatCounts();
        sumsWrapAround();
        marks();
        Due.end("TermsBoundsTest");
    }

    private static String[] words(String text) {
        return text.split(" ");
    }

    /** The 512th call is answered like any other. */
    private static void callsOfOneObject() {
        MeterSeals x = new MeterSeals();
        for (int meter = 0; meter < 3; meter++) {
            Due.number("meter", x.meter(meter), meter);
            Due.is("row", x.row(meter, 0, 1, 1));
        }
        for (int call = 6; call < 509; call++) {
            int meter = (call - 6) / 200;
            Due.is("reading of call " + call, x.pulses(meter, 1, call, 0));
        }
        Due.number("call 510", x.rows(2), 103);
        Due.number("call 511", x.check(1, 0), 0);
        Due.is("call 512", x.pulses(2, 1, 1000, 0));
    }

    /** "METERS are numbered from 0, at most 8." */
    private static void meters() {
        String eight = "meter 0 = 0; meter 1 = 1; meter 2 = 2; meter 3 = 3; meter 4 = 4; meter 5 = 5;"
            + " meter 6 = 6; meter 7 = 7";
        Story.tell("the eighth meter is the last", eight, "meter 8 = -2; rows 7 = 0; rows 8 = -1");
        Story.tell("the last of eight meters is a whole one", eight, "row 7 0 3 2 = true",
            "pulses 7 1 5 0 = true; break 7 1 = true; fraction 7 0 = 3/2; text 7 = R 1 5 0/B 1 */",
            "rows 6 = 0; pulses 6 1 5 0 = false; set 6 1 = false");
        for (String none : words("-1 8 least most 256 65536")) {
            asksMeterThatIsNone("of eight meters", eight, none);
        }
        for (String none : words("-1 1 least most 256 65536")) {
            asksMeterThatIsNone("of one meter", PLAIN + "; pulses 0 1 0 0 = true", none);
        }
    }

    private static void asksMeterThatIsNone(String name, String start, String none) {
        for (String call : words("pulses/1/1/1=false row/1/1/1=false litres/0/0=-1 litres/0/1=-1"
            + " rows=-1 check/0=-1 poke/0/0=false poke/0/1=false break/1=false set/1=false"
            + " marked/0=false gap/0/0=-1 gap/0/1=-1 rest/0=-9223372036854775808 reset/0=false"
            + " roll/0=-1")) {
            int first = call.indexOf('/') < 0 ? call.indexOf('=') : call.indexOf('/');
            String told = call.substring(0, first) + " " + none + call.substring(first);
            Story.tell("meter " + none + " " + name, start, told.replace('/', ' ').replace("=", " = "));
        }
    }

    /** "At most 200 ROWS numbered from 0": any kind may be the last, none comes behind it. */
    private static void rowsOfEachKind() {
        String[] lasts = {"pulses 0 1 9 0", "reset 0 5", "break 0 5"};
        for (String last : lasts) {
            String full = PLAIN + "; 199 * pulses 0 1 9 0 = true; rows 0 = 199; " + last + " = true";
            Story.tell("row 199 is " + last, full, "rows 0 = 200",
                "pulses 0 1 9 0 = false; reset 0 5 = false; break 0 5 = false; set 0 5 = false",
                "rows 0 = 200; check 0 0 = 0");
        }
        Story.tell("row 199 sets the seal", PLAIN, "198 * reset 0 9 = true; break 0 1 = true",
            "set 0 2 = true; rows 0 = 200; set 0 2 = false; break 0 2 = false",
            "pulses 0 1 9 0 = false; reset 0 5 = false; marked 0 197 = false; marked 0 198 = true",
            "marked 0 199 = true; marked 0 200 = false");
        Story.tell("rows from 0 to 199", PLAIN, "200 * pulses 0 3 9 0 = true",
            "fraction 0 0 = 3/1; fraction 0 199 = 3/1",
            "litres 0 200 0 = " + Due.ROW_OUTSIDE + "; litres 0 -1 0 = " + Due.ROW_OUTSIDE,
            "poke 0 199 1 = true; poke 0 200 1 = false; check 0 0 = 200; check 0 200 = 0");
        Story.tell("another meter has rows of its own", PLAIN, "meter 5 = 1; row 1 0 1 1 = true",
            "200 * reset 0 5 = true; reset 0 5 = false; reset 1 5 = true; pulses 1 1 0 0 = true",
            "rows 0 = 200; rows 1 = 2");
    }

    /** "A SEAL, which is set at first." */
    private static void sealIsSetAtFirst() {
        Story.tell("it can't be set", METER, "set 0 1 = false; rows 0 = 0");
        Story.tell("it can be broken", METER, "break 0 1 = true; text 0 = B 1 */");
        Story.tell("no row is marked", PLAIN, "pulses 0 1 0 0 = true; reset 0 1 = true",
            "marked 0 0 = false; marked 0 1 = false; text 0 = R 1 0 0/Z 1/");
        Story.tell("of a second meter too", PLAIN, "break 0 1 = true; meter 5 = 1; set 1 1 = false",
            "reset 1 1 = true; marked 1 0 = false; break 1 1 = true");
    }

    /** "Pulses since the row before, 0 to 1,000,000." */
    private static void pulsesOfReading() {
        for (String inside : words("0 1 999999 1000000")) {
            Story.tell("pulses " + inside, PLAIN, "pulses 0 " + inside + " 0 0 = true",
                "fraction 0 0 = " + inside + "/1; check 0 0 = 0; text 0 = R " + inside + " 0 0/");
        }
        for (String outside : words("-1 1_000_001 4_294_967_296 -4_294_967_296 least most")) {
            Story.tell("pulses " + outside, PLAIN, "pulses 0 " + outside + " 0 0 = false; rows 0 = 0",
                "pulses 0 1 0 0 = true; pulses 0 " + outside + " 0 0 = false; rows 0 = 1");
        }
    }

    /** "A second, 0 to 1,000,000,000,000." */
    private static void secondOfReading() {
        for (String inside : words("0 1 2147483647 2147483648 999999999999 1000000000000")) {
            Story.tell("second " + inside, PLAIN, "pulses 0 1 " + inside + " 0 = true; check 0 0 = 0",
                "text 0 = R 1 " + inside + " 0/; pulses 0 1 1_000_000_000_000 0 = true");
        }
        for (String outside : words("-1 -2 -3 1_000_000_000_001 least most")) {
            Story.tell("second " + outside, PLAIN, "pulses 0 1 " + outside + " 0 = false; rows 0 = 0",
                "pulses 0 1 0 0 = true; pulses 0 1 " + outside + " 0 = false; rows 0 = 1");
        }
    }

    /** "Not below that of any reading before." */
    private static void secondNotBelowOneBefore() {
        String two = PLAIN + "; pulses 0 1 400 0 = true; pulses 0 1 500 0 = true";
        Story.tell("the same second", two, "pulses 0 1 500 0 = true; rows 0 = 3");
        Story.tell("one above", two, "pulses 0 1 501 0 = true; pulses 0 1 500 0 = false");
        Story.tell("one below", two, "pulses 0 1 499 0 = false; rows 0 = 2; pulses 0 1 500 0 = true");
        Story.tell("that of the reading before it", two, "pulses 0 1 400 0 = false; rows 0 = 2");
        Story.tell("none", two, "pulses 0 1 0 0 = false; rows 0 = 2");
        Story.tell("a reset lies between", two, "reset 0 0 = true; pulses 0 1 499 0 = false",
            "pulses 0 1 500 0 = true");
        Story.tell("a seal lies between", two, "break 0 1 = true; pulses 0 1 499 0 = false",
            "set 0 1 = true; pulses 0 1 499 0 = false; pulses 0 1 500 0 = true");
        Story.tell("poked pulses are no second", two, "poke 0 1 900 = true; pulses 0 1 499 0 = false",
            "pulses 0 1 500 0 = true");
        Story.tell("a reset's number is no second", PLAIN, "reset 0 900 = true; pulses 0 1 0 0 = true");
        Story.tell("a person is no second", PLAIN, "break 0 900 = true; pulses 0 1 0 0 = true");
        Story.tell("a refused reading's does not count", PLAIN, "pulses 0 -1 900 0 = false",
            "pulses 0 1 900 151 = false; pulses 0 1 0 0 = true; pulses 0 -1 900 0 = false",
            "pulses 0 1 0 0 = true");
        Story.tell("one without a line does not count", METER, "pulses 0 1 900 0 = false",
            "row 0 0 1 1 = true; pulses 0 1 0 0 = true");
        Story.tell("another meter's does not count", two, "meter 5 = 1; row 1 0 1 1 = true",
            "pulses 1 1 0 0 = true; pulses 0 1 499 0 = false");
        Story.tell("behind the last second", PLAIN, "pulses 0 1 1_000_000_000_000 0 = true",
            "pulses 0 1 999_999_999_999 0 = false; pulses 0 1 1_000_000_000_001 0 = false",
            "pulses 0 1 1_000_000_000_000 0 = true");
    }

    /** "Degrees, -50 to 150." */
    private static void degreesOfReading() {
        for (String inside : words("-50 -49 -1 0 149 150")) {
            Story.tell("degrees " + inside, PLAIN, "pulses 0 1 0 " + inside + " = true",
                "text 0 = R 1 0 " + inside + "/; check 0 0 = 0");
        }
        for (String outside : words("-51 151 206 -306 least most")) {
            Story.tell("degrees " + outside, PLAIN, "pulses 0 1 0 " + outside + " = false; rows 0 = 0",
                "pulses 0 1 0 0 = true; pulses 0 1 0 " + outside + " = false; rows 0 = 1");
        }
    }

    /** "A RESET (to a number, 0 to 1,000,000,000,000)." */
    private static void numberOfReset() {
        for (String inside : words("0 1 2147483648 999999999999 1000000000000")) {
            Story.tell("reset to " + inside, METER, "reset 0 " + inside + " = true",
                "text 0 = Z " + inside + "/; fraction 0 0 = 0/1; check 0 0 = 0");
        }
        for (String outside : words("-1 1_000_000_000_001 least most")) {
            Story.tell("reset to " + outside, METER, "reset 0 " + outside + " = false; rows 0 = 0",
                "reset 0 5 = true; reset 0 " + outside + " = false; rows 0 = 1");
        }
    }

    /** "By a person (1 to 999)." */
    private static void person() {
        for (String inside : words("1 2 998 999")) {
            Story.tell("person " + inside, METER, "break 0 " + inside + " = true",
                "set 0 " + inside + " = true; check 0 0 = 0",
                "text 0 = B " + inside + " */S " + inside + " */");
        }
        for (String outside : words("0 -1 1000 65537 least most")) {
            Story.tell("person " + outside, METER, "break 0 " + outside + " = false; rows 0 = 0",
                "set 0 " + outside + " = false; break 0 1 = true; set 0 " + outside + " = false",
                "break 0 " + outside + " = false; rows 0 = 1; set 0 1 = true");
        }
    }

    /** "A TABLE has at most 16 lines." */
    private static void linesOfTable() {
        StringBuilder sixteen = new StringBuilder(METER);
        StringBuilder readings = new StringBuilder("rows 0 = 0");
        StringBuilder litres = new StringBuilder("rows 0 = 16");
        for (int i = 0; i < 16; i++) {
            sixteen.append("; row 0 ").append(10 * i - 50).append(' ').append(i + 1).append(" 1 = true");
            readings.append("; pulses 0 1 0 ").append(10 * i - 41).append(" = true");
            litres.append("; fraction 0 ").append(i).append(" = ").append(i + 1).append("/1");
        }
        Story.tell("sixteen lines count", sixteen.toString(), readings.toString(), litres.toString());
        for (String other : words("-49 101 150")) {
            Story.tell("a line at " + other + " beside 16", sixteen.toString(), readings.toString(),
                "row 0 " + other + " 1 1 = false", litres.toString());
        }
        for (String same : words("-50 0 100")) {
            Story.tell("a line in the place of one at " + same, sixteen.toString(),
                "row 0 " + same + " 7 9 = true; pulses 0 1 0 " + same + " = true; fraction 0 0 = 7/9",
                "row 0 101 1 1 = false");
        }
        Story.tell("another meter has lines of its own", sixteen.toString(), "meter 5 = 1",
            "row 1 101 1 1 = true; row 0 101 1 1 = false");
        Story.tell("a line put sixteen times is one", METER, "16 * row 0 0 1 1 = true",
            "row 0 1 2 1 = true; row 0 2 3 1 = true");
    }

    /** "Above / below litres (1 to 10,000 each)." */
    private static void aboveAndBelow() {
        for (String inside : words("1 2 9999 10000")) {
            Story.tell("above " + inside, METER, "row 0 0 " + inside + " 1 = true",
                "pulses 0 1 0 0 = true; fraction 0 0 = " + inside + "/1");
            Story.tell("below " + inside, METER, "row 0 0 1 " + inside + " = true",
                "pulses 0 1 0 0 = true; fraction 0 0 = 1/" + inside);
            Story.tell("both " + inside, METER, "row 0 0 " + inside + " " + inside + " = true",
                "pulses 0 1 0 0 = true; fraction 0 0 = 1/1");
        }
        for (String outside : words("0 -1 10_001 4_294_967_297 least most")) {
            Story.tell("above " + outside, METER, "row 0 0 " + outside + " 1 = false",
                "pulses 0 1 0 0 = false; row 0 0 3 2 = true; row 0 0 " + outside + " 1 = false",
                "pulses 0 1 0 0 = true; fraction 0 0 = 3/2; row 0 0 " + outside + " 1 = false",
                "fraction 0 0 = 3/2");
            Story.tell("below " + outside, METER, "row 0 0 1 " + outside + " = false",
                "pulses 0 1 0 0 = false; row 0 0 3 2 = true; row 0 0 1 " + outside + " = false",
                "pulses 0 1 0 0 = true; fraction 0 0 = 3/2; row 0 0 1 " + outside + " = false",
                "fraction 0 0 = 3/2");
        }
    }

    /** "The line with the most degrees that are not above d counts; when there is none, the least." */
    private static void lineThatCounts() {
        for (String at : words("-50 -1 0 1 150")) {
            Story.tell("one line, at " + at, METER, "row 0 0 3 2 = true; pulses 0 1 0 " + at + " = true",
                "fraction 0 0 = 3/2");
        }
        String asks = "pulses 0 1 0 -50 = true; pulses 0 1 0 9 = true; pulses 0 1 0 10 = true;"
            + " pulses 0 1 0 19 = true; pulses 0 1 0 20 = true; pulses 0 1 0 21 = true;"
            + " pulses 0 1 0 150 = true; fraction 0 0 = 1/1; fraction 0 1 = 1/1; fraction 0 2 = 1/1;"
            + " fraction 0 3 = 1/1; fraction 0 4 = 2/1; fraction 0 5 = 2/1; fraction 0 6 = 2/1";
        Story.tell("the lesser came first", METER, "row 0 10 1 1 = true; row 0 20 2 1 = true", asks);
        Story.tell("the greater came first", METER, "row 0 20 2 1 = true; row 0 10 1 1 = true", asks);
        Story.tell("lines at both ends", METER, "row 0 150 2 1 = true; row 0 -50 1 1 = true",
            "pulses 0 1 0 -50 = true; pulses 0 1 0 149 = true; pulses 0 1 0 150 = true",
            "fraction 0 0 = 1/1; fraction 0 1 = 1/1; fraction 0 2 = 2/1");
        Story.tell("a line at the most degrees alone", METER, "row 0 150 2 1 = true",
            "pulses 0 1 0 -50 = true; pulses 0 1 0 150 = true; fraction 0 0 = 2/1; fraction 0 1 = 2/1");
        Story.tell("none is below: the least of three", METER, "row 0 30 3 1 = true",
            "row 0 10 1 1 = true; row 0 20 2 1 = true; pulses 0 1 0 9 = true; fraction 0 0 = 1/1");
        Story.tell("a line that comes later counts", METER, "row 0 20 2 1 = true",
            "pulses 0 1 0 15 = true; fraction 0 0 = 2/1; row 0 30 3 1 = true; fraction 0 0 = 2/1",
            "row 0 16 5 1 = true; fraction 0 0 = 5/1; row 0 -50 7 1 = true; fraction 0 0 = 7/1",
            "row 0 15 9 1 = true; fraction 0 0 = 9/1");
        Story.tell("below freezing", METER, "row 0 -10 1 1 = true; row 0 -5 2 1 = true",
            "pulses 0 1 0 -11 = true; pulses 0 1 0 -10 = true; pulses 0 1 0 -6 = true",
            "pulses 0 1 0 -5 = true; pulses 0 1 0 0 = true; fraction 0 0 = 1/1; fraction 0 1 = 1/1",
            "fraction 0 2 = 1/1; fraction 0 3 = 2/1; fraction 0 4 = 2/1");
    }

    /** The sums are of "64 bits": whatever wraps around in them, each row has its own. */
    private static void sumsWrapAround() {
        for (String key : words("least most 0 -1 1 4_611_686_018_427_387_904 6_148_914_691_236_517_205")) {
            Story.tell("sums with the key " + key, "meter " + key + " = 0; row 0 0 1 1 = true",
                "pulses 0 1_000_000 1_000_000_000_000 150 = true; check 0 0 = 0",
                "pulses 0 0 1_000_000_000_000 -50 = true; reset 0 1_000_000_000_000 = true",
                "break 0 999 = true; set 0 1 = true; check 0 0 = 0; check 0 4 = 0",
                "poke 0 0 -1 = true; check 0 0 = 1; check 0 1 = 0; poke 0 0 1 = true; check 0 0 = 0",
                "poke 0 1 1_000_000 = true; check 0 0 = 2; check 0 2 = 0");
            Story.tell("a full chain with the key " + key, "meter " + key + " = 0; row 0 0 1 1 = true",
                "200 * pulses 0 1_000_000 1_000_000_000_000 -50 = true; check 0 0 = 0",
                "poke 0 199 -1 = true; check 0 0 = 200");
        }
    }

    /** "MARKED when the seal was broken as it came, the one that breaks it and the one that sets it." */
    private static void marks() {
        Story.tell("the one that breaks it", METER, "break 0 1 = true; marked 0 0 = true");
        Story.tell("the one that sets it", METER, "break 0 1 = true; set 0 1 = true",
            "marked 0 0 = true; marked 0 1 = true");
        Story.tell("the last before it is broken", PLAIN, "pulses 0 1 0 0 = true; break 0 1 = true",
            "marked 0 0 = false; marked 0 1 = true");
        Story.tell("the first and last of those between", PLAIN, "break 0 1 = true",
            "pulses 0 1 0 0 = true; reset 0 1 = true; set 0 1 = true; marked 0 1 = true",
            "marked 0 2 = true; marked 0 3 = true");
        Story.tell("the first behind the one that sets it", PLAIN, "break 0 1 = true; set 0 1 = true",
            "pulses 0 1 0 0 = true; reset 0 1 = true; marked 0 2 = false; marked 0 3 = false");
        Story.tell("broken again at once", METER, "break 0 1 = true; set 0 1 = true; break 0 2 = true",
            "marked 0 1 = true; marked 0 2 = true; text 0 = B 1 */S 1 */B 2 */");
        Story.tell("a poke marks nothing", PLAIN, "pulses 0 1 0 0 = true; break 0 1 = true",
            "poke 0 0 1 = true; marked 0 0 = false; text 0 = R 2 0 0/B 1 */");
        Story.tell("another meter's seal marks nothing", PLAIN, "meter 5 = 1; break 0 1 = true",
            "reset 1 1 = true; reset 0 1 = true; marked 1 0 = false; marked 0 1 = true");
    }
}
