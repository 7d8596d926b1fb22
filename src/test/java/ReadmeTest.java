import java.io.IOException;
import java.nio.file.Files;
import java.nio.file.Path;
import java.util.regex.Matcher;
import java.util.regex.Pattern;

/** The example of README.md: its calls, in their order, have the answers that stand behind them there. */
public final class ReadmeTest {
    private static final Pattern TEXT = Pattern.compile("String text = \"([^\"]*)\";");
    private static final Pattern CALL = Pattern.compile("land\\.(\\w+)\\(([^)]*)\\); +// (-?\\d+): .+");
    private static final Pattern PLAIN = Pattern.compile("for \\(.*\\) \\{|\\}|//.*|");

    private static final SevenSpells LAND = new SevenSpells();
    private static int calls = 0;
    private static int wrong = 0;
    private static String text = "";

    private ReadmeTest() {
    }

    public static void main(String[] args) throws IOException {
        String readme = Files.readString(Path.of("README.md"));
        int begin = readme.indexOf("```java\n") + 8;
        for (String line : readme.substring(begin, readme.indexOf("```", begin)).split("\n")) {
            follow(line.strip());
        }
        check(calls > 30, "there are " + calls + " calls alone");
        System.out.println(calls + " calls of the example, " + wrong + " wrong");
        if (wrong != 0) {
            System.exit(1);
        }
    }

    private static void follow(String line) {
        Matcher telling = TEXT.matcher(line);
        Matcher call = CALL.matcher(line);
        if (telling.matches()) {
            text = telling.group(1);
        } else if (line.equals("land.write(letter);")) {
            text.chars().forEach(LAND::write);
        } else if (call.matches()) {
            calls++;
            int got = Runs.answer(LAND, call.group(1), numbers(call.group(2)));
            check(got == Integer.parseInt(call.group(3)), "answered " + got + ": " + line);
        } else {
            boolean made = line.equals("SevenSpells land = new SevenSpells();");
            check(made || PLAIN.matcher(line).matches(), "not understood: " + line);
        }
    }

    private static int[] numbers(String arguments) {
        if (arguments.isEmpty()) {
            return new int[0];
        }
        String[] each = arguments.replace("SevenSpells.NONE", "" + SevenSpells.NONE).split(", ");
        int[] numbers = new int[each.length];
        for (int i = 0; i < each.length; i++) {
            numbers[i] = Integer.parseInt(each[i]);
        }
        return numbers;
    }

    private static void check(boolean right, String what) {
        if (!right) {
            wrong++;
            System.out.println(what);
        }
    }
}
