import java.lang.reflect.InvocationTargetException;
import java.util.ArrayList;
import java.util.Arrays;
import java.util.List;
import java.util.Map;
import java.util.Set;

/**
 * Runs of calls with the answers that are due, for tests that are told in them. A run is rows of calls on a new object:
 *
 *   name(a, b) = answer        a call; an argument may be 0..3 or -1|3|max: the call with each of them, in their order,
 *                              with one answer for all or an answer for each
 *   n times name(a) = answer   the same call n times
 *   told TEXT                  its letters, and land(), which has no fault to find
 *   text 'TEXT'                its letters
 *   reads 'TEXT' = answer      its letters, fault() with this answer, and erase()
 *
 * Behind # a row says why. Wherever calls have been that must change nothing, because they were refused or only ask,
 * all that can be seen of the object is compared with that of a twin that never had these calls.
 */
final class Runs {
    // What later calls answer is free, so a run that needs more of them would test nothing.
    private static final int MOST_CALLS = 512;
    private static final Set<String> CHANGING = Set.of("write", "erase", "land", "act", "undo", "keep", "back", "row", "burn",
        "prince", "dismiss", "tried", "forget");
    private static final Map<String, Integer> NAMES = Map.of("NONE", -1, "UNKNOWN", -2, "OUTSIDE", -3, "NOT", -4, "FULL", -5,
        "max", Integer.MAX_VALUE, "min", Integer.MIN_VALUE);

    private int checks = 0;
    private int twins = 0;
    private int wrong = 0;

    /** Tells how many checks there were, and ends with 1 if one was wrong. */
    void end(String of) {
        System.out.println(checks + " checks of " + of + ", " + twins + " of twins, " + wrong + " wrong");
        if (wrong != 0) {
            System.exit(1);
        }
    }

    // ---- how runs are run

    /** One call with the answer that is due, or with any answer that is not refused. */
    private record Call(String name, int[] arguments, Integer due, String row) {
        boolean changes() {
            return CHANGING.contains(name) && (due == null || due > -2);
        }

        @Override
        public String toString() {
            return name + Arrays.toString(arguments).replace('[', '(').replace(']', ')');
        }
    }

    void run(String sentence, String rows) {
        List<Call> calls = new ArrayList<>();
        for (String row : rows.lines().map(String::strip).toList()) {
            addCalls(row.startsWith("text") || row.startsWith("reads") ? row : row.split("#")[0].strip(), calls);
        }
        check(calls.size() <= MOST_CALLS, sentence + ": " + calls.size() + " calls");
        SevenSpells x = new SevenSpells();
        for (Call call : calls) {
            int got = answer(x, call.name, call.arguments);
            boolean right = call.due == null ? got > -2 : got == call.due;
            check(right, sentence + ": in '" + call.row + "' " + call + " answered " + got);
        }
        for (int i = 0; i < calls.size(); i++) {
            if (!calls.get(i).changes() && (i + 1 == calls.size() || calls.get(i + 1).changes())) {
                compareTwins(sentence, calls.subList(0, i + 1));
            }
        }
    }

    void check(boolean right, String what) {
        checks++;
        if (!right) {
            wrong++;
            System.out.println(what);
        }
    }

    /** The second twin is spared the calls that must change nothing. */
    private void compareTwins(String sentence, List<Call> calls) {
        SevenSpells one = new SevenSpells();
        SevenSpells other = new SevenSpells();
        for (Call call : calls) {
            answer(one, call.name, call.arguments);
            if (call.changes()) {
                answer(other, call.name, call.arguments);
            }
        }
        List<String> seen = allSeen(one);
        twins++;
        check(seen.equals(allSeen(other)), sentence + ": what must change nothing did, up to " + calls.get(calls.size() - 1));
        check(calls.size() + seen.size() <= MOST_CALLS, sentence + ": " + (calls.size() + seen.size()) + " calls");
    }

    /** All answers that tell of an object, and then, as this twin is used no more, those of calls that change it. */
    private static List<String> allSeen(SevenSpells x) {
        List<String> seen = new ArrayList<>();
        int spells = see(x, seen, "count", 1);
        for (int what : new int[] {0, 2, 3, 4, 5, 6, 7, 8, 9, 10, 11, 12}) {
            see(x, seen, "count", what);
        }
        see(x, seen, "fault");
        for (int p = 0; p < 3; p++) {
            for (int what = 0; what < 4; what++) {
                see(x, seen, "person", p, what);
            }
        }
        for (int s = 0; s < spells; s++) {
            see(x, seen, "spell", s, 1);
            see(x, seen, "spell", s, 3);
            see(x, seen, "as", s, 0);
            see(x, seen, "laidBy", s);
        }
        int all = (1 << spells) - 1;
        see(x, seen, "fewest", all);
        see(x, seen, "way", all, 0, 1);
        see(x, seen, "helpers", all, 1);
        see(x, seen, "nights", all);
        see(x, seen, "never");
        see(x, seen, "props");
        see(x, seen, "ahead", 0);
        see(x, seen, "gone", all >> 1, 0);
        see(x, seen, "many", 2);
        see(x, seen, "farthest");
        for (int what = 0; what < 5; what++) {
            if (what < 2) {
                see(x, seen, "judge", what);
                see(x, seen, "inLine", what);
            }
            see(x, seen, "mayBe", what);
        }
        see(x, seen, "next");
        while (see(x, seen, "undo") >= 0) {
            seeNow(x, seen);
        }
        for (int k = 0; k < 2; k++) {
            see(x, seen, "back", k);
            seeNow(x, seen);
        }
        see(x, seen, "burn");
        see(x, seen, "dismiss");
        see(x, seen, "forget");
        see(x, seen, "land");
        see(x, seen, "erase");
        seeNow(x, seen);
        return seen;
    }

    private static void seeNow(SevenSpells x, List<String> seen) {
        for (int what = 2; what < 7; what++) {
            see(x, seen, "count", what);
        }
    }

    private static int see(SevenSpells x, List<String> seen, String name, int... arguments) {
        int got = answer(x, name, arguments);
        seen.add(name + Arrays.toString(arguments) + got);
        return got;
    }

    static int answer(SevenSpells x, String name, int... arguments) {
        Class<?>[] types = new Class<?>[arguments.length];
        Arrays.fill(types, int.class);
        Object[] boxed = Arrays.stream(arguments).boxed().toArray();
        try {
            return (Integer) SevenSpells.class.getMethod(name, types).invoke(x, boxed);
        } catch (NoSuchMethodException | IllegalAccessException | InvocationTargetException e) {
            throw new IllegalStateException(name + Arrays.toString(arguments), e);
        }
    }

    // ---- how rows are read

    private static void addCalls(String row, List<Call> calls) {
        if (row.startsWith("told ")) {
            String text = row.substring(5);
            addLetters(text, row, calls);
            calls.add(new Call("land", new int[0], text.split(";").length, row));
        } else if (row.startsWith("text ")) {
            addLetters(quoted(row), row, calls);
        } else if (row.startsWith("reads ")) {
            addLetters(quoted(row), row, calls);
            calls.add(new Call("fault", new int[0], number(row.substring(row.lastIndexOf('=') + 1)), row));
            calls.add(new Call("erase", new int[0], quoted(row).length(), row));
        } else if (row.contains(" times ")) {
            String call = row.substring(row.indexOf(" times ") + 7);
            for (int i = number(row.substring(0, row.indexOf(' '))); i > 0; i--) {
                addEach(call, row, calls);
            }
        } else {
            addEach(row, row, calls);
        }
    }

    private static String quoted(String row) {
        return row.substring(row.indexOf('\'') + 1, row.lastIndexOf('\''));
    }

    private static void addLetters(String text, String row, List<Call> calls) {
        for (char letter : text.toCharArray()) {
            calls.add(new Call("write", new int[] {letter}, null, row));
        }
    }

    private static void addEach(String text, String row, List<Call> calls) {
        String name = text.substring(0, text.indexOf('('));
        String inside = text.substring(text.indexOf('(') + 1, text.indexOf(')'));
        String[] due = text.contains("=") ? text.substring(text.indexOf('=') + 1).strip().split(" ") : new String[0];
        List<int[]> each = new ArrayList<>(List.of(new int[0]));
        for (String argument : inside.isEmpty() ? new String[0] : inside.split(", ")) {
            List<int[]> longer = new ArrayList<>();
            for (int[] begun : each) {
                for (int value : values(argument)) {
                    int[] more = Arrays.copyOf(begun, begun.length + 1);
                    more[begun.length] = value;
                    longer.add(more);
                }
            }
            each = longer;
        }
        if (due.length > 1 && due.length != each.size()) {
            throw new IllegalStateException(row + ": " + due.length + " answers for " + each.size() + " calls");
        }
        for (int i = 0; i < each.size(); i++) {
            Integer answer = due.length == 0 ? null : number(due.length == 1 ? due[0] : due[i]);
            calls.add(new Call(name, each.get(i), answer, row));
        }
    }

    private static int[] values(String argument) {
        if (argument.contains("..")) {
            String[] ends = argument.split("\\.\\.");
            int first = number(ends[0]);
            int[] all = new int[number(ends[1]) - first + 1];
            Arrays.setAll(all, i -> first + i);
            return all;
        }
        return Arrays.stream(argument.split("\\|")).mapToInt(Runs::number).toArray();
    }

    private static int number(String word) {
        Integer named = NAMES.get(word.strip());
        return named != null ? named : Integer.parseInt(word.strip());
    }
}
