import java.lang.reflect.InvocationTargetException;
import java.lang.reflect.Method;
import java.util.ArrayList;
import java.util.List;
import java.util.regex.Matcher;
import java.util.regex.Pattern;

/**
 * Runs of calls on new objects, written as text, a row a call:
 *
 * <pre>
 * init(0) = 0                                        the answer that is due
 * begin(0, 1) throws IllegalStateException           the exception that is due; nothing changes
 * init(0) throws IllegalStateException, changed      the exception that is due, with a change
 * 32 x plain(0, #)                                   so many calls that answer anything; # counts from 0
 * </pre>
 *
 * For each row that throws and may change nothing, the run is made again up to there, with that row and
 * without it, and whatever can be asked of the two objects must be the same.
 */
final class Script {
    private static final int MOST_CALLS = 512;
    private static final int PROBES = 6;
    private static final Pattern ROW =
            Pattern.compile("(?:(\\d+) x )?(\\w+)\\(([^)]*)\\)(?: = (-?\\d+)| throws (\\w+)(, changed)?)?");

    private static int checked = 0;
    private static int wrong = 0;

    private record Row(String call, int times, String due, boolean mustChangeNothing) {}

    /** An object with a count of its calls, since nothing is promised of later ones. */
    private static final class Subject {
        private final FencedBroker broker = new FencedBroker();
        private int calls = 0;

        String ask(String call) {
            if (calls == MOST_CALLS) {
                return "free";
            }
            calls++;
            return answer(broker, call);
        }
    }

    private Script() {}

    static void check(String title, String text) {
        List<Row> rows = parse(title, text);
        Subject subject = new Subject();
        for (int i = 0; i < rows.size(); i++) {
            Row row = rows.get(i);
            perform(subject, row, title);
            if (row.mustChangeNothing()) {
                checkUnchanged(title, rows, i);
            }
        }
    }

    /**
     * A number of a call, written @, with the ends of its range and what is due there ("0 = 7"): after the
     * rows before it, the two ends must be answered so, and what lies outside must be refused.
     */
    static void checkRange(String title, String before, String call, String least, String most) {
        for (String end : new String[] {least, most}) {
            String number = end.substring(0, end.indexOf(' '));
            check(title, before + call.replace("@", number) + end.substring(number.length()));
        }
        int under = Integer.parseInt(least.substring(0, least.indexOf(' '))) - 1;
        int over = Integer.parseInt(most.substring(0, most.indexOf(' '))) + 1;
        for (int outside : new int[] {under, over, Integer.MIN_VALUE, Integer.MAX_VALUE}) {
            check(title, before + call.replace("@", Integer.toString(outside)) + " throws IllegalArgumentException");
        }
    }

    static boolean same(String title, Object got, Object due) {
        checked++;
        if (due.equals(got)) {
            return true;
        }
        wrong++;
        System.out.println(title + " answered " + got + ", due is " + due);
        return false;
    }

    static void end() {
        System.out.println(checked + " answers looked at, " + wrong + " wrong");
        if (wrong > 0 || checked == 0) {
            System.exit(1);
        }
    }

    private static List<Row> parse(String title, String text) {
        List<Row> rows = new ArrayList<>();
        for (String line : text.strip().split("\\s*\\n\\s*")) {
            Matcher m = ROW.matcher(line);
            if (!m.matches()) {
                throw new IllegalArgumentException(title + ": cannot read the row " + line);
            }
            int times = m.group(1) == null ? 1 : Integer.parseInt(m.group(1));
            String due = m.group(4) != null ? m.group(4) : m.group(5);
            boolean mustChangeNothing = m.group(5) != null && m.group(6) == null;
            rows.add(new Row(m.group(2) + "(" + m.group(3) + ")", times, due, mustChangeNothing));
        }
        return rows;
    }

    private static void perform(Subject subject, Row row, String title) {
        for (int n = 0; n < row.times(); n++) {
            String call = row.call().replace("#", Integer.toString(n));
            String got = subject.ask(call);
            if (row.due() != null) {
                same(title + ": " + call, got, row.due());
            } else if (got.endsWith("Exception")) {
                same(title + ": " + call, got, "an answer");
            }
        }
    }

    private static void checkUnchanged(String title, List<Row> rows, int refused) {
        for (int probe = 0; probe < PROBES; probe++) {
            Subject with = replay(rows, refused + 1);
            Subject without = replay(rows, refused);
            // Both objects must have the same number of calls left for the probe.
            without.calls = with.calls;
            same(title + ": state after " + rows.get(refused).call() + ", probe " + probe,
                    ask(with, probe, refused), ask(without, probe, refused));
        }
    }

    private static Subject replay(List<Row> rows, int count) {
        Subject subject = new Subject();
        for (Row row : rows.subList(0, count)) {
            for (int n = 0; n < row.times(); n++) {
                subject.ask(row.call().replace("#", Integer.toString(n)));
            }
        }
        return subject;
    }

    private static String ask(Subject subject, int probe, int calls) {
        StringBuilder said = new StringBuilder();
        switch (probe) {
            case 0 -> askReadings(subject, said);
            case 1 -> askGroups(subject, said, calls);
            case 2 -> askTimes(subject, said);
            case 3 -> askPending(subject, said);
            case 4 -> askRecords(subject, said);
            default -> askTransactions(subject, said);
        }
        return said.toString();
    }

    private static void say(Subject subject, StringBuilder said, String call) {
        said.append(call).append(' ').append(subject.ask(call)).append("; ");
    }

    private static void askReadings(Subject subject, StringBuilder said) {
        say(subject, said, "last()");
        for (int n = 0; n < 4; n++) {
            for (int what = 0; what < 8; what++) {
                say(subject, said, "fact(" + n + ", " + what + ")");
            }
            for (int what = 0; what < 6; what++) {
                say(subject, said, "edge(" + n + ", " + what + ")");
            }
        }
    }

    private static void askGroups(Subject subject, StringBuilder said, int calls) {
        for (int generation = 0; generation <= Math.min(calls, 30); generation++) {
            for (int n = 0; n < 8; n++) {
                say(subject, said, "beat(" + n / 4 + ", " + n % 4 + ", " + generation + ")");
            }
        }
        for (int n = 0; n < 8; n++) {
            say(subject, said, "join(" + n / 4 + ", " + n % 4 + ")");
        }
    }

    private static void askTimes(Subject subject, StringBuilder said) {
        for (int n = 0; n < 32; n++) {
            say(subject, said, "tick(1)");
        }
    }

    private static void askPending(Subject subject, StringBuilder said) {
        for (int n = 0; n < 8; n++) {
            say(subject, said, "copy(" + n / 2 + ", 40)");
        }
        for (int name = 0; name < 4; name++) {
            String age = subject.ask("fact(" + name + ", 1)");
            say(subject, said, "finish(" + name + ", " + age + ", true)");
        }
        for (int n = 0; n < 40; n++) {
            say(subject, said, "step()");
            say(subject, said, "copy(" + n % 4 + ", 40)");
        }
        askReadings(subject, said);
    }

    private static void askRecords(Subject subject, StringBuilder said) {
        for (int n = 0; n < 4; n++) {
            say(subject, said, "copy(" + n + ", 40)");
            String offset = subject.ask("edge(" + n + ", 0)");
            while (!offset.endsWith("Exception") && !offset.equals("free")) {
                say(subject, said, "fetch(" + n + ", " + offset + ", true)");
                offset = subject.ask("fetch(" + n + ", " + offset + ", false)");
                said.append(offset).append(' ');
                say(subject, said, "last()");
                offset = offset.matches("\\d+") ? Integer.toString(Integer.parseInt(offset) + 1) : offset;
            }
        }
    }

    private static void askTransactions(Subject subject, StringBuilder said) {
        for (int name = 0; name < 4; name++) {
            say(subject, said, "init(" + name + ")");
            String age = subject.ask("fact(" + name + ", 1)");
            say(subject, said, "begin(" + name + ", " + age + ")");
            say(subject, said, "pend(" + name + ", " + age + ", 0, 0, 1)");
        }
        askReadings(subject, said);
    }

    static String answer(FencedBroker broker, String call) {
        int open = call.indexOf('(');
        String name = call.substring(0, open);
        String inside = call.substring(open + 1, call.length() - 1).strip();
        String[] words = inside.isEmpty() ? new String[0] : inside.split("\\s*,\\s*");
        Object[] arguments = new Object[words.length];
        for (int i = 0; i < words.length; i++) {
            arguments[i] = argument(words[i]);
        }
        try {
            return methodNamed(name).invoke(broker, arguments).toString();
        } catch (InvocationTargetException e) {
            return e.getCause().getClass().getSimpleName();
        } catch (IllegalAccessException e) {
            throw new IllegalArgumentException("cannot call " + call, e);
        }
    }

    private static Object argument(String word) {
        if (word.equals("true") || word.equals("false")) {
            return Boolean.valueOf(word);
        }
        return Integer.valueOf(word);
    }

    private static Method methodNamed(String name) {
        for (Method method : FencedBroker.class.getMethods()) {
            if (method.getName().equals(name) && method.getDeclaringClass() == FencedBroker.class) {
                return method;
            }
        }
        throw new IllegalArgumentException("no method " + name);
    }
}
