import java.io.IOException;
import java.lang.reflect.InvocationTargetException;
import java.lang.reflect.Method;
import java.nio.file.Files;
import java.nio.file.Path;
import java.util.HashMap;
import java.util.Map;
import java.util.Set;
import java.util.TreeSet;
import java.util.regex.Matcher;
import java.util.regex.Pattern;

/** What README.md shows of calls and answers is so: its run is made, call by call, and its table names all calls. */
public final class ReadmeTest {
    private static final Pattern CALL =
        Pattern.compile("(?:int (\\w+) = )?forge\\.(\\w+)\\(([^)]*)\\); *// (throws \\w+|-?\\w+)(?:: .*)?");
    private static final Pattern ROW = Pattern.compile("\\| `(\\w+)\\(([^)]*)\\)` \\|.*");

    private final TermForge forge = new TermForge();
    private final Map<String, Integer> terms = new HashMap<>();
    private final Set<String> called = new TreeSet<>();

    private ReadmeTest() {
    }

    public static void main(String[] args) throws IOException {
        String readme = Files.readString(Path.of("README.md"));
        new ReadmeTest().run(readme);
        table(readme);
        Check.end();
    }

    private static Map<String, Method> face() {
        Map<String, Method> face = new HashMap<>();
        for (Method method : TermForge.class.getMethods()) {
            if (method.getDeclaringClass() == TermForge.class) {
                face.put(method.getName(), method);
            }
        }
        return face;
    }

    private void run(String readme) {
        int begin = readme.indexOf("```java\n") + "```java\n".length();
        String[] lines = readme.substring(begin, readme.indexOf("```", begin)).split("\n");
        Check.due("the first line", lines[0], "TermForge forge = new TermForge();");
        for (int k = 1; k < lines.length; k++) {
            if (!lines[k].isEmpty()) {
                Check.test("README.md", lineTest(lines[k]));
            }
        }
        Check.due("calls that the run shows", called.toString(), new TreeSet<>(face().keySet()).toString());
    }

    private Runnable lineTest(String line) {
        return () -> {
            Matcher call = CALL.matcher(line);
            Check.due(line + " is a call with its answer", call.matches(), true);
            String answer = answer(call.group(2), call.group(3));
            called.add(call.group(2));
            Check.due(line, answer, call.group(4));
            if (call.group(1) != null) {
                terms.put(call.group(1), Integer.parseInt(answer));
            }
        };
    }

    private String answer(String name, String list) {
        String[] words = list.isEmpty() ? new String[0] : list.split(", ");
        Object[] values = new Object[words.length];
        for (int k = 0; k < words.length; k++) {
            values[k] = terms.containsKey(words[k]) ? terms.get(words[k]) : Integer.valueOf(words[k]);
        }
        try {
            return String.valueOf(face().get(name).invoke(forge, values));
        } catch (InvocationTargetException e) {
            return "throws " + e.getCause().getClass().getSimpleName();
        } catch (IllegalAccessException e) {
            throw new IllegalStateException(e);
        }
    }

    private static void table(String readme) {
        Set<String> rows = new TreeSet<>();
        Matcher row = ROW.matcher(readme);
        while (row.find()) {
            Method method = face().get(row.group(1));
            rows.add(row.group(1));
            int count = row.group(2).isEmpty() ? 0 : row.group(2).split(", ").length;
            Check.due(row.group(1) + " takes", count, method == null ? -1 : method.getParameterCount());
            for (Class<?> thrown : method == null ? new Class<?>[0] : method.getExceptionTypes()) {
                Check.due(row.group(1) + " names " + thrown, row.group().contains(thrown.getSimpleName()), true);
            }
        }
        Check.due("calls of the table", rows.toString(), new TreeSet<>(face().keySet()).toString());
    }
}
