import java.lang.reflect.InvocationTargetException;
import java.lang.reflect.Method;
import java.util.ArrayList;
import java.util.Arrays;
import java.util.List;

/**
 * Runs of calls told by lines, each on a new object:
 * <pre>
 *   set(0, 23, 9) = 0        the answer that is due (MIN, MAX: the ends of the ints)
 *   set(0, 24, 9) = -2 !     refused: that it changed nothing is looked at, too
 *   day(2) = 14 ?            asked: likewise
 *   tape: falls 1;           bytes that are fed
 *   rule: falls 1;harms 1;wakes 1;   a text that becomes THE RULE
 *   rain: 1 0 9              RAIN from HOUR 0 on; all 5: of each HOUR
 *   row: 1 2 7 8 9           SHEET 1 is of sort 2 with 7, 8, 9
 * </pre>
 */
final class Script {
    private static final int MOST_CALLS = 512;
    private static final String[] NO_LINES = {};

    private final Due due;

    Script(Due due) {
        this.due = due;
    }

    void run(String title, String... lines) {
        after(NO_LINES, title, lines);
    }

    /** The lines behind those of a setup. */
    void after(String[] setup, String title, String... lines) {
        List<String> all = new ArrayList<>(Arrays.asList(setup));
        all.addAll(Arrays.asList(lines));
        UnderTheRoof x = new UnderTheRoof();
        int calls = 0;
        for (int i = 0; i < all.size(); i++) {
            String line = all.get(i);
            calls += isCall(line) ? 1 : line.length();
            if (isCall(line)) {
                due.is(title + ", line " + (i - setup.length) + ": " + callOf(line), call(x, callOf(line)),
                dueOf(line));
            } else {
                prepare(x, line);
            }
            if (isCall(line) && (line.endsWith(" !") || line.endsWith(" ?"))) {
                changesNothing(title + ", line " + (i - setup.length) + ": " + callOf(line), all, i);
            }
        }
        if (calls > MOST_CALLS) {
            throw new IllegalStateException(title + ": more than 512 calls");
        }
    }

    private void changesNothing(String what, List<String> all, int i) {
        for (int part = 0; part < Whole.PARTS; part++) {
            due.same(what, Whole.of(part, replayed(all, i + 1)), Whole.of(part, replayed(all, i)));
        }
    }

    private static UnderTheRoof replayed(List<String> all, int n) {
        UnderTheRoof x = new UnderTheRoof();
        for (String line : all.subList(0, n)) {
            if (isCall(line)) {
                call(x, callOf(line));
            } else {
                prepare(x, line);
            }
        }
        return x;
    }

    private static boolean isCall(String line) {
        return line.indexOf(") = ") > 0;
    }

    private static String callOf(String line) {
        return line.substring(0, line.indexOf(") = ") + 1);
    }

    private static long dueOf(String line) {
        return Long.parseLong(line.substring(line.indexOf(") = ") + 4).replaceAll("[ !?]", ""));
    }

    private static void prepare(UnderTheRoof x, String line) {
        String rest = line.substring(line.indexOf(": ") + 2);
        switch (line.substring(0, line.indexOf(": "))) {
            case "tape":
                Roof.feed(x, rest);
                break;
            case "rule":
                Roof.rule(x, rest);
                break;
            case "rain":
                if (rest.startsWith("all ")) {
                    Roof.rainAll(x, Integer.parseInt(rest.substring(4)));
                } else {
                    Roof.rain(x, numbers(rest));
                }
                break;
            case "row":
                int[] row = numbers(rest);
                Roof.sheet(x, row[0], row[1], Arrays.copyOfRange(row, 2, row.length));
                break;
            default:
                throw new IllegalArgumentException(line);
        }
    }

    private static int[] numbers(String rest) {
        return Arrays.stream(rest.trim().split(" +")).mapToInt(Integer::parseInt).toArray();
    }

    static long call(UnderTheRoof x, String call) {
        String name = call.substring(0, call.indexOf('('));
        String inside = call.substring(call.indexOf('(') + 1, call.length() - 1);
        String[] words = inside.isEmpty() ? NO_LINES : inside.split(", *");
        Object[] numbers = new Object[words.length];
        for (int i = 0; i < words.length; i++) {
            numbers[i] = number(words[i].trim());
        }
        for (Method method : UnderTheRoof.class.getDeclaredMethods()) {
            if (method.getName().equals(name) && method.getParameterCount() == numbers.length) {
                return answer(x, method, numbers);
            }
        }
        throw new IllegalArgumentException(call);
    }

    static long answer(UnderTheRoof x, Method method, Object... numbers) {
        try {
            return ((Number) method.invoke(x, numbers)).longValue();
        } catch (IllegalAccessException | InvocationTargetException e) {
            throw new IllegalStateException(method + " of " + Arrays.toString(numbers), e);
        }
    }

    private static int number(String word) {
        return word.equals("MIN") ? Integer.MIN_VALUE : word.equals("MAX") ? Integer.MAX_VALUE
            : Integer.parseInt(word);
    }
}
