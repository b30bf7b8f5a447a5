import java.io.IOException;
import java.lang.reflect.Method;
import java.nio.file.Files;
import java.nio.file.Path;
import java.util.HashMap;
import java.util.List;
import java.util.Map;
import java.util.Set;
import java.util.TreeSet;
import java.util.regex.Matcher;
import java.util.regex.Pattern;

/** The runs of calls that README.md shows: each call must be answered as it says there. */
public final class ReadmeTest {
    private static final String FENCE = "```";
    private static final String NEW_OBJECT = "FencedBroker broker = new FencedBroker();";
    private static final Pattern CALL = Pattern.compile(
            "(?:int (\\w+) = )?broker\\.(\\w+)\\(([^)]*)\\);\\s+// (?:answers (-?\\d+)|throws (\\w+)): \\S.*");

    private static final Set<String> shown = new TreeSet<>();

    public static void main(String[] args) throws IOException {
        checkBlocks(Files.readAllLines(Path.of("README.md")));
        Script.same("the calls that README.md shows are", shown, callsOfTheFace());
        Script.end();
    }

    private static void checkBlocks(List<String> lines) {
        int begin = -1;
        for (int i = 0; i < lines.size(); i++) {
            if (lines.get(i).startsWith(FENCE)) {
                if (begin < 0) {
                    begin = i;
                } else {
                    checkBlock(lines.get(begin).substring(FENCE.length()), begin + 1, lines.subList(begin + 1, i));
                    begin = -1;
                }
            }
        }
        Script.same("README.md: the line of a block without an end", begin, -1);
    }

    private static void checkBlock(String kind, int line, List<String> lines) {
        String title = "README.md, block at line " + line;
        switch (kind) {
            case "java" -> Script.check(title, rowsOf(title, lines));
            case "text" -> Script.check(title, String.join("\n", lines));
            default -> Script.same(title + ": its kind", kind, "java or text");
        }
    }

    /** A program's lines as rows of a Script; what a variable holds is what the README says of its call. */
    private static String rowsOf(String title, List<String> lines) {
        Script.same(title + ": its first line", lines.get(0), NEW_OBJECT);
        Map<String, String> variables = new HashMap<>();
        StringBuilder rows = new StringBuilder();
        for (String line : lines.subList(1, lines.size())) {
            Matcher m = CALL.matcher(line);
            if (!m.matches()) {
                throw new IllegalArgumentException(title + ": cannot read the line " + line);
            }
            shown.add(m.group(2));
            rows.append(m.group(2)).append('(').append(withValues(m.group(3), variables)).append(')');
            // What a refused call must not change is for the promises' own tests.
            rows.append(m.group(4) != null ? " = " + m.group(4) : " throws " + m.group(5) + ", changed").append('\n');
            if (m.group(1) != null && variables.put(m.group(1), m.group(4)) != null) {
                throw new IllegalArgumentException(title + ": a second variable " + m.group(1));
            }
        }
        return rows.toString();
    }

    private static String withValues(String arguments, Map<String, String> variables) {
        String[] words = arguments.split(", ");
        for (int i = 0; i < words.length; i++) {
            words[i] = variables.getOrDefault(words[i], words[i]);
        }
        return String.join(", ", words);
    }

    private static Set<String> callsOfTheFace() {
        Set<String> names = new TreeSet<>();
        for (Method method : FencedBroker.class.getMethods()) {
            if (method.getDeclaringClass() == FencedBroker.class) {
                names.add(method.getName());
            }
        }
        return names;
    }
}
