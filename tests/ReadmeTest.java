import java.lang.reflect.Field;
import java.lang.reflect.Method;
import java.lang.reflect.Modifier;
import java.nio.file.Files;
import java.nio.file.Path;
import java.util.Arrays;
import java.util.regex.Matcher;
import java.util.regex.Pattern;

/** README.md tells the truth: its example answers what it says, and it names the whole face. */
final class ReadmeTest {
    private static final Pattern CALL = Pattern.compile("(?m)^ *x\\.(\\w+)\\(([-0-9, ]*)\\); *// (-?\\d+)(, [A-Z_]+)?");

    public static void main(String[] args) throws Exception {
        String readme = Files.readString(Path.of(System.getProperty("readme")));
        theExampleAnswersSo(readme);
        everyMethodHasItsRow(readme);
        everyConstantHasItsRow(readme);
        Check.due("names .ci/run", readme.contains("bash .ci/run") ? 1 : 0, 1);
        Check.end("ReadmeTest");
    }

    private static void theExampleAnswersSo(String readme) throws Exception {
        PopularMatchings x = new PopularMatchings();
        Matcher call = CALL.matcher(readme);
        int calls = 0;
        while (call.find()) {
            int want = Integer.parseInt(call.group(3));
            Check.due("README.md: " + call.group().trim(), answer(x, call.group(1), call.group(2)), want);
            if (call.group(4) != null) {
                Check.due("README.md: " + call.group().trim(), constant(call.group(4).substring(2)), want);
            }
            calls++;
        }
        Check.due("README.md has an example", calls > 10 ? 1 : 0, 1);
    }

    private static int answer(PopularMatchings x, String name, String given) throws Exception {
        String[] texts = given.isEmpty() ? new String[0] : given.split(", ");
        Class<?>[] types = new Class<?>[texts.length];
        Arrays.fill(types, int.class);
        Object[] numbers = Arrays.stream(texts).map(Integer::valueOf).toArray();
        return (Integer) PopularMatchings.class.getMethod(name, types).invoke(x, numbers);
    }

    private static int constant(String name) throws Exception {
        return PopularMatchings.class.getField(name).getInt(null);
    }

    private static void everyMethodHasItsRow(String readme) {
        for (Method method : PopularMatchings.class.getDeclaredMethods()) {
            if (Modifier.isPublic(method.getModifiers())) {
                Check.due("README.md has a row for " + method.getName(), rowsOf(readme, method.getName() + "("), 1);
            }
        }
    }

    private static void everyConstantHasItsRow(String readme) throws Exception {
        for (Field field : PopularMatchings.class.getDeclaredFields()) {
            if (Modifier.isPublic(field.getModifiers())) {
                String row = field.getName() + "` | " + field.getInt(null) + " |";
                Check.due("README.md has the row " + row, rowsOf(readme, row), 1);
            }
        }
    }

    private static long rowsOf(String readme, String beginning) {
        return readme.lines().filter(line -> line.startsWith("| `" + beginning)).count();
    }
}
