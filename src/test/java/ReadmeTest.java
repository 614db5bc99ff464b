import java.io.IOException;
import java.lang.reflect.Method;
import java.lang.reflect.Modifier;
import java.nio.file.Files;
import java.nio.file.Path;
import java.util.List;
import java.util.regex.Matcher;
import java.util.regex.Pattern;

/** What README.md shows is what the class answers, and no call of the face is left out there. */
public final class ReadmeTest {
    private static final Pattern TEXT = Pattern.compile("for \\(char letter : \"(.*)\"\\.toCharArray\\(\\)\\) \\{");
    private static final Pattern CALL = Pattern.compile("x\\.(\\w+)\\((.*)\\); +// (-?\\w+)\\b.*");
    private static final List<String> SKIPPED = List.of("x.feed(letter);", "}");
    private static final Check check = new Check();
    private static StormLots x;
    private static int calls;

    private ReadmeTest() {
    }

    public static void main(String[] args) throws Exception {
        check.where = "README.md";
        List<String> lines = readme();
        boolean java = false;
        for (String line : lines) {
            if (line.startsWith("```")) {
                java = line.equals("```java");
            } else if (java) {
                run(line.strip());
            }
        }
        check.holds("it shows calls", calls > 40);
        everyCallIsTold(lines);
        check.end();
    }

    private static List<String> readme() throws IOException {
        return Files.readAllLines(Path.of("README.md"));
    }

    private static void run(String line) throws Exception {
        Matcher text = TEXT.matcher(line);
        Matcher call = CALL.matcher(line);
        if (line.equals("StormLots x = new StormLots();")) {
            x = new StormLots();
        } else if (text.matches()) {
            Check.feed(x, text.group(1));
        } else if (call.matches()) {
            calls++;
            check.due(line, answer(call.group(1), call.group(2)), number(call.group(3)));
        } else {
            check.holds("a line that can be run: " + line, SKIPPED.contains(line));
        }
    }

    private static long answer(String name, String numbers) throws Exception {
        String[] told = numbers.isEmpty() ? new String[0] : numbers.split(", ");
        Object[] given = new Object[told.length];
        Class<?>[] types = new Class<?>[told.length];
        for (int i = 0; i < told.length; i++) {
            given[i] = Integer.valueOf(told[i]);
            types[i] = int.class;
        }
        return ((Number) StormLots.class.getMethod(name, types).invoke(x, given)).longValue();
    }

    private static long number(String told) throws Exception {
        return told.matches("-?[0-9]+") ? Long.parseLong(told) : StormLots.class.getField(told).getInt(null);
    }

    private static void everyCallIsTold(List<String> lines) {
        for (Method m : StormLots.class.getDeclaredMethods()) {
            if (Modifier.isPublic(m.getModifiers())) {
                check.holds(m.getName() + " stands in the table", isInTable(lines, m.getName()));
            }
        }
    }

    private static boolean isInTable(List<String> lines, String name) {
        for (String line : lines) {
            if (line.startsWith("| `") && line.substring(0, line.indexOf('|', 1)).contains("`" + name + "(")) {
                return true;
            }
        }
        return false;
    }
}
