import java.util.List;

/**
 * All that can be learned of an object after some calls: each question of each meter, and what later
 * calls would answer. Every object is asked within its 512 calls; when they are used up, or when the
 * asking itself changes the object, the calls are made anew on another one.
 */
final class View {
    private static final long MOST_SECOND = 1_000_000_000_000L;

    /** What changes the object while it is asked needs the rest of the 512 calls in one piece. */
    private static final int MOST_CALLS_BEFORE = 300;

    /** More than 200 rows can have; a class that answers on behind them is not asked for ever. */
    private static final int MOST_GAPS = 201;
    private static final int MOST_BYTES = 7_000;

    private final List<String> before;
    private final StringBuilder text = new StringBuilder();
    private MeterSeals x;
    private int used;

    private View(List<String> before) {
        if (before.size() > MOST_CALLS_BEFORE) {
            throw new IllegalArgumentException("a story of more than 300 changes can't be viewed");
        }
        this.before = before;
        afresh();
    }

    static String after(List<String> calls) {
        View view = new View(calls);
        for (int meter = 0; meter < 8; meter++) {
            int rows = Integer.parseInt(view.note("rows " + meter));
            if (rows >= 0) {
                view.questions(meter, rows);
                view.tableToCome(meter, rows);
                view.sealToCome(meter);
                view.rowsToCome(meter, rows);
            }
        }
        view.metersToCome();
        return view.text.toString();
    }

    /** The whole roll after some calls. */
    static String roll(List<String> calls, int meter) {
        View view = new View(calls);
        view.wholeRoll(meter);
        return view.text.toString();
    }

    private void afresh() {
        x = new MeterSeals();
        for (String call : before) {
            Calls.answer(x, call);
        }
        used = before.size();
    }

    private String ask(String call) {
        if (used >= Calls.MOST) {
            afresh();
        }
        used++;
        return Calls.answer(x, call);
    }

    private String note(String call) {
        String answer = ask(call);
        text.append(call).append(" = ").append(answer).append('\n');
        return answer;
    }

    private void questions(int meter, int rows) {
        for (int row = -1; row <= rows; row++) {
            note("litres " + meter + " " + row + " 0");
            note("litres " + meter + " " + row + " 1");
            note("marked " + meter + " " + row);
            note("check " + meter + " " + row);
        }
        String answer = "";
        for (int k = 0; k < MOST_GAPS && !answer.equals("-1"); k++) {
            answer = note("gap " + meter + " " + k + " 0");
            note("gap " + meter + " " + k + " 1");
        }
        note("rest " + meter + " 0");
        wholeRoll(meter);
    }

    private void wholeRoll(int meter) {
        String answer = ask("roll " + meter + " 0");
        for (int i = 1; i < MOST_BYTES && !answer.equals("-1"); i++) {
            text.append((char) Integer.parseInt(answer));
            answer = ask("roll " + meter + " " + i);
        }
    }

    /** Which lines there are, how many more fit, and which one counts at each degree. */
    private void tableToCome(int meter, int rows) {
        afresh();
        for (int degrees = -50; degrees <= 150; degrees++) {
            note("row " + meter + " " + degrees + " 1 1");
        }
        int room = Math.min(50, 200 - rows);
        for (int degrees = -50; room > 0 && degrees <= 150; degrees++) {
            int more = (degrees + 50) % room;
            if (more == 0) {
                afresh();
            }
            note("pulses " + meter + " 1 " + MOST_SECOND + " " + degrees);
            note("litres " + meter + " " + (rows + more) + " 0");
            note("litres " + meter + " " + (rows + more) + " 1");
        }
    }

    private void sealToCome(int meter) {
        afresh();
        note("set " + meter + " 1");
        afresh();
        note("break " + meter + " 1");
    }

    /** Whether a row still comes, the sum that it would have, and the least second of a reading. */
    private void rowsToCome(int meter, int rows) {
        afresh();
        note("reset " + meter + " 7");
        note("check " + meter + " 0");
        note("check " + meter + " " + rows);
        note("marked " + meter + " " + rows);
        long refused = -1;
        long accepted = MOST_SECOND + 1;
        while (accepted - refused > 1) {
            long second = (refused + accepted) / 2;
            afresh();
            if (ask("pulses " + meter + " 0 " + second + " 0").equals("true")) {
                accepted = second;
            } else {
                refused = second;
            }
        }
        text.append("least second ").append(accepted).append('\n');
    }

    private void metersToCome() {
        afresh();
        for (int i = 0; i < 9; i++) {
            note("meter " + i);
        }
    }
}
