/** Calls told as texts, "pulses 0 1 0 20", and what they answer, as texts too. */
final class Calls {
    /** The document leaves free what an object answers behind so many calls. */
    static final int MOST = 512;

    private Calls() {
    }

    static String answer(MeterSeals x, String call) {
        String[] words = call.split(" ");
        return switch (words[0]) {
            case "meter" -> String.valueOf(x.meter(big(words[1])));
            case "pulses" -> String.valueOf(
                x.pulses(small(words[1]), big(words[2]), big(words[3]), small(words[4])));
            case "row" -> String.valueOf(
                x.row(small(words[1]), small(words[2]), big(words[3]), big(words[4])));
            case "litres" -> Due.litres(x, small(words[1]), small(words[2]), small(words[3]));
            case "rows" -> String.valueOf(x.rows(small(words[1])));
            case "check" -> String.valueOf(x.check(small(words[1]), small(words[2])));
            case "poke" -> String.valueOf(x.poke(small(words[1]), small(words[2]), big(words[3])));
            case "break" -> String.valueOf(x.seal(small(words[1]), small(words[2]), false));
            case "set" -> String.valueOf(x.seal(small(words[1]), small(words[2]), true));
            case "marked" -> String.valueOf(x.marked(small(words[1]), small(words[2])));
            case "gap" -> String.valueOf(x.gap(small(words[1]), small(words[2]), small(words[3])));
            case "rest" -> String.valueOf(x.rest(small(words[1]), big(words[2])));
            case "reset" -> String.valueOf(x.reset(small(words[1]), big(words[2])));
            case "roll" -> String.valueOf(x.roll(small(words[1]), small(words[2])));
            default -> throw new IllegalArgumentException(call);
        };
    }

    /** Whether a call with this answer is one that the document lets change the object. */
    static boolean changes(String call, String answer) {
        return switch (call.substring(0, call.indexOf(' '))) {
            case "meter" -> !answer.startsWith("-");
            case "pulses", "row", "poke", "break", "set", "reset" -> answer.equals("true");
            default -> false;
        };
    }

    private static int small(String word) {
        return switch (word) {
            case "least" -> Integer.MIN_VALUE;
            case "most" -> Integer.MAX_VALUE;
            default -> Integer.parseInt(word.replace("_", ""));
        };
    }

    private static long big(String word) {
        return switch (word) {
            case "least" -> Long.MIN_VALUE;
            case "most" -> Long.MAX_VALUE;
            default -> Long.parseLong(word.replace("_", ""));
        };
    }
}
