import java.io.IOException;
import java.lang.reflect.Method;
import java.lang.reflect.Modifier;
import java.nio.file.Files;
import java.nio.file.Path;
import java.util.Arrays;
import java.util.List;
import java.util.regex.Matcher;
import java.util.regex.Pattern;

/** README.md: its program and its texts answer as they say, and no call and no constant is left out. */
public final class ReadmeTest {
    private static final Due DUE = new Due();
    private static final Pattern TEXT = Pattern.compile("String text = \"([^\"]*)\";");
    private static final Pattern CALL = Pattern.compile("farm\\.(\\w+)\\(([-0-9, ]*)\\); *// (-?[0-9]+)\\b.*");
    private static final Pattern TEXT_ROW = Pattern.compile("\\| `([^`]+)` \\| (-?[0-9]+) \\|.*");
    private static final Pattern CONSTANT_ROW = Pattern.compile("\\| `([A-Z]+)` \\| (-?[0-9]+) \\|.*");
    private static final Pattern CALL_ROW = Pattern.compile("\\| `(\\w+)\\(([^)`]*)\\)` \\| [^|]+ \\|[^|]*\\|");

    public static void main(String[] args) throws IOException, ReflectiveOperationException {
        List<String> lines = Files.readAllLines(Path.of("README.md"));
        program(lines);
        texts(lines);
        calls(lines);
        constants(lines);
        DUE.end();
    }

    private static void program(List<String> lines) throws ReflectiveOperationException {
        DUE.part("the program");
        HarpFences farm = new HarpFences();
        String text = "";
        int asked = 0;
        List<String> code = lines.subList(lines.indexOf("```java") + 1, lines.size());
        for (String line : code.subList(0, code.indexOf("```"))) {
            Matcher told = TEXT.matcher(line);
            Matcher call = CALL.matcher(line);
            if (told.matches()) {
                text = told.group(1);
            } else if (line.strip().equals("farm.type(text.charAt(i));")) {
                Due.types(farm, text);
            } else if (call.matches()) {
                asked++;
                DUE.is(line, answer(farm, call.group(1), call.group(2)), Long.parseLong(call.group(3)));
            } else {
                boolean plain = line.isEmpty() || line.equals("}") || line.startsWith("for (int i = 0;")
                        || line.equals("HarpFences farm = new HarpFences();");
                DUE.is("'" + line + "' is read", plain ? 1 : 0, 1);
            }
        }
        DUE.is("calls were found", asked > 20 ? 1 : 0, 1);
    }

    private static long answer(HarpFences farm, String name, String numbers) throws ReflectiveOperationException {
        Object[] given = numbers.isBlank() ? new Object[0]
                : Arrays.stream(numbers.split(",")).map(n -> Integer.valueOf(n.strip())).toArray();
        Class<?>[] types = new Class<?>[given.length];
        Arrays.fill(types, int.class);
        return ((Number) HarpFences.class.getMethod(name, types).invoke(farm, given)).longValue();
    }

    private static void texts(List<String> lines) {
        DUE.part("the texts");
        int found = 0;
        for (String line : lines) {
            Matcher row = TEXT_ROW.matcher(line);
            if (row.matches() && !CONSTANT_ROW.matcher(line).matches()) {
                found++;
                DUE.is(line, Due.tells(new HarpFences(), row.group(1)), Long.parseLong(row.group(2)));
            }
        }
        DUE.is("texts were found", found > 8 ? 1 : 0, 1);
    }

    private static void calls(List<String> lines) {
        DUE.part("the calls");
        for (Method m : HarpFences.class.getDeclaredMethods()) {
            if (Modifier.isPublic(m.getModifiers())) {
                DUE.is(m + " has one row", rowsOf(m, lines), 1);
            }
        }
    }

    private static int rowsOf(Method m, List<String> lines) {
        int rows = 0;
        for (String line : lines) {
            Matcher row = CALL_ROW.matcher(line);
            if (row.matches() && row.group(1).equals(m.getName())) {
                int numbers = row.group(2).isEmpty() ? 0 : row.group(2).split(",").length;
                rows += numbers == m.getParameterCount() ? 1 : 100;
            }
        }
        return rows;
    }

    private static void constants(List<String> lines) throws ReflectiveOperationException {
        DUE.part("the constants");
        int found = 0;
        for (String line : lines) {
            Matcher row = CONSTANT_ROW.matcher(line);
            if (row.matches()) {
                found++;
                DUE.is(line, HarpFences.class.getField(row.group(1)).getInt(null), Long.parseLong(row.group(2)));
            }
        }
        DUE.is("constants", found, 5);
    }
}
