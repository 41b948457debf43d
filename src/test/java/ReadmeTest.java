import java.io.IOException;
import java.lang.reflect.InvocationTargetException;
import java.lang.reflect.Method;
import java.nio.file.DirectoryStream;
import java.nio.file.Files;
import java.nio.file.Path;
import java.util.HashMap;
import java.util.Map;
import java.util.regex.Matcher;
import java.util.regex.Pattern;

/** README.md says of the class what is so; it is run from the project's folder. */
public final class ReadmeTest {
    private static final Pattern EXAMPLE = Pattern.compile("(?s)```java\n(.*?)```");
    private static final Pattern STEP = Pattern.compile(
            "(?:int (\\w+) = )?hall\\.(\\w+)\\(([^)]*)\\);\\s+// ([\\w.-]+)(?::.*)?");
    private static final Pattern ROW = Pattern.compile("(?m)^\\| `(\\w+)\\(([^)]*)\\)` \\|([^|]*)\\|([^|]*)\\|$");
    private static final Pattern THROWN = Pattern.compile("\\w+Exception");

    private final TurnsHall hall = new TurnsHall();
    private final Map<String, Integer> named = new HashMap<>();

    public static void main(String[] args) throws IOException {
        String page = Files.readString(Path.of("README.md"));
        new ReadmeTest().example(page);
        rows(page);
        tests(page);
        Due.end();
    }

    private void example(String page) {
        Matcher found = EXAMPLE.matcher(page);
        String text = found.find() ? found.group(1) : "";
        int steps = 0;
        for (String line : text.lines().toList()) {
            if (line.isEmpty() || line.startsWith("//") || line.equals("TurnsHall hall = new TurnsHall();")) {
                continue;
            }
            Matcher step = STEP.matcher(line);
            if (!step.matches()) {
                Due.tell("README.md: " + line, "a call with its answer", "another line");
                break;
            }
            String answer = answer(step.group(2), arguments(step.group(3)));
            String want = step.group(4).equals("TurnsHall.NONE") ? "" + TurnsHall.NONE : step.group(4);
            Due.tell("README.md: " + line, want, answer);
            // What comes after a wrong step would be wrong for its sake alone.
            if (!want.equals(answer)) {
                break;
            }
            if (step.group(1) != null) {
                named.put(step.group(1), Integer.parseInt(answer));
            }
            steps++;
        }
        Due.yes("the example has steps", steps > 20);
    }

    private Object[] arguments(String text) {
        if (text.isEmpty()) {
            return new Object[0];
        }
        String[] words = text.split(", ");
        Object[] values = new Object[words.length];
        for (int at = 0; at < words.length; at++) {
            if (words[at].equals("true") || words[at].equals("false")) {
                values[at] = words[at].equals("true");
            } else {
                values[at] = named.containsKey(words[at]) ? named.get(words[at]) : Integer.valueOf(words[at]);
            }
        }
        return values;
    }

    private static Method method(String name) {
        for (Method method : TurnsHall.class.getMethods()) {
            if (method.getDeclaringClass() == TurnsHall.class && method.getName().equals(name)) {
                return method;
            }
        }
        throw new IllegalArgumentException("README.md names a call that there is not: " + name);
    }

    private String answer(String name, Object[] arguments) {
        try {
            return "" + method(name).invoke(hall, arguments);
        } catch (InvocationTargetException e) {
            return e.getCause().getClass().getSimpleName();
        } catch (IllegalAccessException e) {
            return "cannot be called";
        }
    }

    /** Each call of the face has a row, with as many arguments as it takes and just the exceptions that it names. */
    private static void rows(String page) {
        Map<String, String> seen = new HashMap<>();
        Matcher row = ROW.matcher(page);
        while (row.find()) {
            int takes = row.group(2).isEmpty() ? 0 : row.group(2).split(", ").length;
            Due.no("README.md has a second row of " + row.group(1), seen.containsKey(row.group(1)));
            seen.put(row.group(1), takes + thrown(row.group(4)));
            Due.no("README.md says what " + row.group(1) + " does: not", row.group(3).isBlank());
        }
        int calls = 0;
        for (Method method : TurnsHall.class.getMethods()) {
            if (method.getDeclaringClass() == TurnsHall.class) {
                calls++;
                StringBuilder want = new StringBuilder().append(method.getParameterCount());
                for (Class<?> type : method.getExceptionTypes()) {
                    want.append(' ').append(type.getSimpleName());
                }
                Due.tell("README.md on " + method.getName(), want.toString(), "" + seen.get(method.getName()));
            }
        }
        Due.tell("the rows of README.md", "" + calls, "" + seen.size());
    }

    private static String thrown(String cell) {
        StringBuilder names = new StringBuilder();
        Matcher name = THROWN.matcher(cell);
        while (name.find()) {
            names.append(' ').append(name.group());
        }
        return names.toString();
    }

    private static void tests(String page) throws IOException {
        Due.yes("README.md says how to run the tests", page.contains("\n    .ci/run\n"));
        try (DirectoryStream<Path> all = Files.newDirectoryStream(Path.of("src/test/java"), "*Test.java")) {
            for (Path test : all) {
                String name = test.getFileName().toString().replace(".java", "");
                Due.yes("README.md has a row for " + name, page.contains("\n| " + name + " | "));
            }
        }
    }
}
