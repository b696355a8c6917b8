import java.lang.reflect.Method;
import java.nio.file.Files;
import java.nio.file.Path;
import java.util.Arrays;
import java.util.regex.Matcher;
import java.util.regex.Pattern;

/** README.md's examples, one behind another on one object: each call answers the number that stands behind it. */
public final class ReadmeTest {
    private static final Checks C = new Checks();
    private static final Pattern CALL = Pattern.compile("x\\.(\\w+)\\(([-\\d, ]*)\\); *// (-?\\d+): .*");
    private static final Pattern WRITE = Pattern.compile("write\\(x, (\\d), \"([^\"]*)\"\\);.*");

    private static MarbleGarden x;

    public static void main(String[] args) throws Exception {
        int calls = 0;
        for (String line : Files.readAllLines(Path.of("README.md"))) {
            Matcher write = WRITE.matcher(line);
            Matcher call = CALL.matcher(line);
            if (line.startsWith("MarbleGarden x = new MarbleGarden();")) {
                x = new MarbleGarden();
            } else if (write.matches()) {
                Checks.fill(x, Integer.parseInt(write.group(1)), Checks.BYTES, write.group(2));
            } else if (call.matches()) {
                calls++;
                C.due("README.md: " + line, answer(call.group(1), call.group(2)), Long.parseLong(call.group(3)));
            } else if (line.startsWith("x.")) {
                C.due("an example that can't be read: " + line, 0, 1);
            }
        }
        C.due("README.md has examples", calls > 0 ? 1 : 0, 1);
        C.finish();
    }

    private static long answer(String name, String told) throws Exception {
        int[] numbers = told.isEmpty() ? new int[0] : Arrays.stream(told.split(", *")).mapToInt(Integer::parseInt).toArray();
        Class<?>[] types = new Class<?>[numbers.length];
        Arrays.fill(types, int.class);
        Method method = MarbleGarden.class.getMethod(name, types);
        return ((Number) method.invoke(x, Arrays.stream(numbers).boxed().toArray())).longValue();
    }
}
