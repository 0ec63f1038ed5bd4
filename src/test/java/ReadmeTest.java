import java.io.IOException;
import java.lang.reflect.Method;
import java.lang.reflect.Modifier;
import java.nio.file.DirectoryStream;
import java.nio.file.Files;
import java.nio.file.Path;
import java.util.Set;
import java.util.TreeSet;
import java.util.regex.Matcher;
import java.util.regex.Pattern;

/** What README.md says is so: its calls, one run on one object, and its lists of calls and tests. */
public final class ReadmeTest {
    private static final Path README = Path.of("README.md");
    private static final Path TESTS = Path.of("src/test/java");
    private static final Pattern BLOCK = Pattern.compile("```(\\w+)\n(.*?)```", Pattern.DOTALL);
    private static final Pattern CALL =
        Pattern.compile("(?:int m = )?seals\\.(\\w+)\\(([^)]*)\\); *// (.+?): .+");
    private static final Pattern LISTED = Pattern.compile("\\| `(\\w+)\\(([^)]*)\\)` \\|.*\\|.*\\|");

    public static void main(String[] args) throws IOException {
        String readme = Files.readString(README);
        callsAnswerSo(readme);
        listsEachCall(readme);
        listsEachTest(readme);
        Due.end("ReadmeTest");
    }

    private static void callsAnswerSo(String readme) {
        MeterSeals seals = new MeterSeals();
        int calls = 0;
        int rolls = 0;
        Matcher block = BLOCK.matcher(readme);
        while (block.find()) {
            if (block.group(1).equals("java")) {
                for (String line : block.group(2).split("\n")) {
                    calls += answersSo(seals, line);
                }
            } else if (block.group(1).equals("text")) {
                rolls++;
                Due.same("the roll", Due.roll(seals, 0), block.group(2));
            }
        }
        Due.is("README has calls", calls > 0);
        Due.number("rolls in README", rolls, 1);
    }

    /** 1 for a call, 0 for the line that makes the object; any other line is not understood. */
    private static int answersSo(MeterSeals seals, String line) {
        Matcher call = CALL.matcher(line);
        if (call.matches()) {
            String told = told(call.group(1), call.group(2).replace("L", "").replace("m,", "0,"));
            Due.same(line, Calls.answer(seals, told), due(call.group(3)));
            return 1;
        }
        Due.same("a line of README", line, "MeterSeals seals = new MeterSeals();");
        return 0;
    }

    private static String told(String name, String arguments) {
        String words = arguments.equals("m") ? "0" : arguments.replace(",", "");
        if (!name.equals("seal")) {
            return name + " " + words;
        }
        int last = words.lastIndexOf(' ');
        return (words.endsWith(" true") ? "set " : "break ") + words.substring(0, last);
    }

    private static String due(String answer) {
        if (answer.matches("'.'")) {
            return String.valueOf((int) answer.charAt(1));
        }
        return switch (answer) {
            case "NONE" -> String.valueOf(MeterSeals.NONE);
            case "FULL" -> String.valueOf(MeterSeals.FULL);
            case "Long.MIN_VALUE" -> String.valueOf(Long.MIN_VALUE);
            default -> answer.replace("throws ", "throws.");
        };
    }

    private static void listsEachCall(String readme) {
        Set<String> listed = new TreeSet<>();
        Matcher call = LISTED.matcher(readme);
        while (call.find()) {
            listed.add(call.group(1) + " of " + call.group(2).split(", ").length);
        }
        Set<String> face = new TreeSet<>();
        for (Method method : MeterSeals.class.getDeclaredMethods()) {
            if (Modifier.isPublic(method.getModifiers())) {
                face.add(method.getName() + " of " + method.getParameterCount());
            }
        }
        Due.same("the calls that README lists", listed, face);
    }

    private static void listsEachTest(String readme) throws IOException {
        try (DirectoryStream<Path> tests = Files.newDirectoryStream(TESTS, "*Test.java")) {
            for (Path test : tests) {
                String name = test.getFileName().toString().replace(".java", "");
                Due.is("README lists " + name, readme.contains("`" + name + "`"));
            }
        }
    }
}
