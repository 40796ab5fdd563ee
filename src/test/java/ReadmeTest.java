import java.lang.reflect.Method;
import java.lang.reflect.Modifier;
import java.nio.file.Files;
import java.nio.file.Path;
import java.util.regex.Matcher;
import java.util.regex.Pattern;

/** README.md tells the truth: its calls answer what stands behind them, and it names every call of the face. */
public final class ReadmeTest {
    private static final Pattern ROW = Pattern.compile("(?m)^spa\\.(\\w+)\\((.*)\\); *// (-?\\d+)\\b");
    private static int wrong = 0;

    public static void main(String[] args) throws Exception {
        String readme = Files.readString(Path.of("README.md"));
        callsAnswerAsTold(readme);
        everyCallIsNamed(readme);
        System.out.println(wrong == 0 ? "README.md holds" : wrong + " faults of README.md");
        if (wrong != 0) {
            System.exit(1);
        }
    }

    private static void fault(String text) {
        wrong++;
        System.out.println(text);
    }

    private static void callsAnswerAsTold(String readme) throws Exception {
        ProvinceCards spa = new ProvinceCards();
        int rows = 0;
        Matcher row = ROW.matcher(readme);
        while (row.find()) {
            rows++;
            long got = answer(spa, row.group(1), row.group(2));
            if (got != Long.parseLong(row.group(3))) {
                fault("README.md: " + row.group() + ", but it answered " + got);
            }
        }
        int calls = readme.split("\nspa\\.").length - 1;
        if (rows == 0 || rows != calls) {
            fault("README.md has " + calls + " calls, of which " + rows + " tell an answer");
        }
    }

    private static long answer(ProvinceCards spa, String name, String arguments) throws Exception {
        String[] texts = arguments.isEmpty() ? new String[0] : arguments.split(", ");
        Object[] values = new Object[texts.length];
        for (int i = 0; i < texts.length; i++) {
            values[i] = Integer.decode(texts[i]);
        }
        for (Method method : ProvinceCards.class.getMethods()) {
            if (method.getName().equals(name) && method.getParameterCount() == values.length) {
                return ((Number) method.invoke(spa, values)).longValue();
            }
        }
        throw new IllegalArgumentException("the face has no " + name + " of " + values.length);
    }

    private static void everyCallIsNamed(String readme) {
        for (Method method : ProvinceCards.class.getDeclaredMethods()) {
            if (Modifier.isPublic(method.getModifiers()) && !readme.contains("`" + method.getName() + "`")) {
                fault("README.md does not name " + method.getName());
            }
        }
    }
}
