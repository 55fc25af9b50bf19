import java.io.IOException;
import java.lang.reflect.InvocationTargetException;
import java.lang.reflect.Method;
import java.nio.file.Files;
import java.nio.file.Path;
import java.util.HashMap;
import java.util.HashSet;
import java.util.Map;
import java.util.Set;
import java.util.regex.Matcher;
import java.util.regex.Pattern;

/** The election in README.md, call by call, and that its table has every call. */
public final class ReadmeTest {
    private static final Path README = Path.of("README.md");
    private static final Pattern CALL = Pattern.compile("board\\.(\\w+)\\(([^)]*)\\);\\s+// (throws \\w+|-?\\d+)\\b.*");
    private static final Pattern IN_TABLE = Pattern.compile("\\| `(\\w+)\\(([^)]*)\\)` \\|.*");
    private static final int CALLS_OF_THE_FACE = 14;

    private ReadmeTest() {
    }

    public static void main(String[] args) throws IOException {
        String text = Files.readString(README);
        electionAnswersAsTold(text);
        tableHasEveryCall(text);
        Check.end();
    }

    private static void electionAnswersAsTold(String text) {
        String[] lines = between(text, "```java\n", "```").split("\n");
        Check.compare("first line", "BallotBoard board = new BallotBoard();", lines[0]);
        BallotBoard board = new BallotBoard();
        for (int i = 1; i < lines.length; i++) {
            Matcher line = CALL.matcher(lines[i]);
            if (line.matches()) {
                Check.compare(lines[i], line.group(3), outcome(board, line.group(1), numbersOf(line.group(2))));
            } else {
                Check.holds("a call with its answer: " + lines[i], false);
            }
        }
    }

    private static void tableHasEveryCall(String text) {
        Map<String, Method> face = face();
        Check.holds("the face has 14 calls", face.size() == CALLS_OF_THE_FACE);
        Set<String> told = new HashSet<>();
        for (String line : text.split("\n")) {
            Matcher row = IN_TABLE.matcher(line);
            if (row.matches()) {
                Method method = face.get(row.group(1));
                told.add(row.group(1));
                Check.holds(line, method != null && method.getParameterCount() == numbersOf(row.group(2)).length);
            }
        }
        Check.holds("calls of the table " + told, told.equals(face.keySet()));
    }

    private static String between(String text, String from, String to) {
        int start = text.indexOf(from) + from.length();
        return text.substring(start, text.indexOf(to, start));
    }

    private static String[] numbersOf(String list) {
        return list.isEmpty() ? new String[0] : list.split(", ");
    }

    private static Map<String, Method> face() {
        Map<String, Method> face = new HashMap<>();
        for (Method method : BallotBoard.class.getMethods()) {
            if (method.getDeclaringClass() == BallotBoard.class) {
                face.put(method.getName(), method);
            }
        }
        return face;
    }

    private static String outcome(BallotBoard board, String name, String[] numbers) {
        Method method = face().get(name);
        Object[] values = new Object[numbers.length];
        for (int i = 0; i < values.length; i++) {
            values[i] = valueOf(numbers[i], method.getParameterTypes()[i]);
        }
        try {
            return method.invoke(board, values).toString();
        } catch (InvocationTargetException e) {
            return "throws " + e.getCause().getClass().getSimpleName();
        } catch (IllegalAccessException e) {
            throw new IllegalStateException(e);
        }
    }

    private static Object valueOf(String text, Class<?> type) {
        if (type == boolean.class) {
            return Boolean.valueOf(text);
        }
        if (type == int.class) {
            return Integer.valueOf(text);
        }
        return Long.valueOf(text);
    }
}
