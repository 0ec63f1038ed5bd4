import java.util.ArrayList;
import java.util.List;

/**
 * A run of calls on a new object, told with the answers that are due: "rows 0 = 3; check 0 0 = 0".
 * Behind "200 * " a call is told so often. "fraction 0 3 = 5/1" asks both parts of litres, and
 * "text 0 = R 1 0 20/B 7 *" + "/" the whole roll, a stroke for each line feed.
 *
 * Whatever call is refused or only asks must leave all as it was: for each such call of a story, the
 * object without it and the object with it are asked all that can be learned of them.
 */
final class Story {
    private final String name;
    private final MeterSeals x = new MeterSeals();
    private final List<String> changes = new ArrayList<>();
    private int told = 0;
    private String unchanged = null;

    private Story(String name) {
        this.name = name;
    }

    static void tell(String name, String... lines) {
        Story story = new Story(name);
        for (String line : String.join("; ", lines).split("; ")) {
            story.line(line);
        }
        Due.is(name + ": it has " + story.told + " calls, within 512", story.told <= Calls.MOST);
    }

    private void line(String line) {
        int times = line.indexOf(" * ");
        int equals = line.indexOf(" = ");
        String due = line.substring(equals + 3);
        if (line.startsWith("text ")) {
            String text = View.roll(changes, Integer.parseInt(line.substring(5, equals)));
            Due.same(name + ": the roll", text.replace('\n', '/'), due);
        } else if (line.startsWith("fraction ")) {
            String litres = "litres " + line.substring(9, equals);
            call(litres + " 0", due.substring(0, due.indexOf('/')));
            call(litres + " 1", due.substring(due.indexOf('/') + 1));
        } else if (times > 0 && times < equals) {
            for (int i = Integer.parseInt(line.substring(0, times)); i > 0; i--) {
                call(line.substring(times + 3, equals), due);
            }
        } else {
            call(line.substring(0, equals), due);
        }
    }

    private void call(String call, String due) {
        told++;
        Due.same(name + ": " + call, Calls.answer(x, call), due);
        if (Calls.changes(call, due)) {
            changes.add(call);
            unchanged = null;
        } else {
            leavesAllAsItWas(call);
        }
    }

    private void leavesAllAsItWas(String call) {
        if (unchanged == null) {
            unchanged = View.after(changes);
        }
        List<String> withIt = new ArrayList<>(changes);
        withIt.add(call);
        String changed = View.after(withIt);
        Due.same(name + ": " + call + " leaves all as it was", firstOther(unchanged, changed), "");
    }

    /** The first line of the second text that is not that of the first; else nothing. */
    private static String firstOther(String first, String second) {
        String[] one = first.split("\n");
        String[] other = second.split("\n");
        for (int i = 0; i < Math.min(one.length, other.length); i++) {
            if (!one[i].equals(other[i])) {
                return other[i] + ", not " + one[i];
            }
        }
        return one.length == other.length ? "" : "a view of another length";
    }
}
