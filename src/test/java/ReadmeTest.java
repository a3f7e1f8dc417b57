import java.io.IOException;
import java.lang.reflect.Method;
import java.nio.file.Files;
import java.nio.file.Path;
import java.util.List;
import java.util.regex.Matcher;
import java.util.regex.Pattern;

/** README.md names every call of the face with its parameters, and its examples answer what it says. */
public final class ReadmeTest {
    private static final Due DUE = new Due();
    private static final Pattern EXAMPLE = Pattern.compile("house\\.(\\w+)\\(([-\\d, ]*)\\); *// (-?\\d+).*");

    public static void main(String[] args) throws IOException, ReflectiveOperationException {
        List<String> lines = Files.readAllLines(Path.of("README.md"));
        everyCallIsNamed(lines);
        examplesAnswerAsTold(lines);
        DUE.end();
    }

    private static void everyCallIsNamed(List<String> lines) {
        for (Method method : ColumnHouse.class.getMethods()) {
            if (method.getDeclaringClass() == ColumnHouse.class) {
                Pattern row = Pattern.compile("\\| `" + method.getName() + "\\(([^)]*)\\)` \\|.*");
                DUE.is("rows of the table for " + method.getName(), count(lines, row), 1);
                DUE.is("its parameters", parameters(lines, row), method.getParameterCount());
            }
        }
    }

    private static int count(List<String> lines, Pattern row) {
        int count = 0;
        for (String line : lines) {
            count += row.matcher(line).matches() ? 1 : 0;
        }
        return count;
    }

    private static int parameters(List<String> lines, Pattern row) {
        for (String line : lines) {
            Matcher matcher = row.matcher(line);
            if (matcher.matches()) {
                return matcher.group(1).isEmpty() ? 0 : matcher.group(1).split(",").length;
            }
        }
        return -1;
    }

    private static void examplesAnswerAsTold(List<String> lines) throws ReflectiveOperationException {
        ColumnHouse house = null;
        int examples = 0;
        for (String line : lines) {
            Matcher matcher = EXAMPLE.matcher(line);
            if (line.equals("ColumnHouse house = new ColumnHouse();")) {
                house = new ColumnHouse();
            } else if (line.startsWith("house.")) {
                DUE.is("the answer is told: " + line, matcher.matches() ? 1 : 0, 1);
                examples++;
                DUE.point(line, call(house, matcher.group(1), matcher.group(2)), Double.parseDouble(matcher.group(3)));
            }
        }
        DUE.is("there are examples", examples > 0 ? 1 : 0, 1);
    }

    private static double call(ColumnHouse house, String name, String numbers) throws ReflectiveOperationException {
        String[] told = numbers.isEmpty() ? new String[0] : numbers.split(", *");
        Object[] parameters = new Object[told.length];
        Class<?>[] types = new Class<?>[told.length];
        for (int k = 0; k < told.length; k++) {
            parameters[k] = Integer.valueOf(told[k]);
            types[k] = int.class;
        }
        return ((Number) ColumnHouse.class.getMethod(name, types).invoke(house, parameters)).doubleValue();
    }
}
