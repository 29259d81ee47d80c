import java.io.IOException;
import java.lang.reflect.Method;
import java.nio.file.Files;
import java.nio.file.Path;
import java.util.HashSet;
import java.util.List;
import java.util.Set;
import java.util.regex.Matcher;
import java.util.regex.Pattern;

/** The calls that README.md shows answer what it says behind them; .ci/run starts in the project's folder. */
final class ReadmeTest {
    private static final Pattern CALL = Pattern.compile("x\\.(\\w+)\\(([-0-9L, ]*)\\);\\s+// (-?[0-9]+)( .*)?");
    private static final Pattern FED = Pattern.compile(" \\(\"([^\"]*)\".*\\)");

    private final BelfryHouse x = new BelfryHouse();
    private final Set<String> called = new HashSet<>();

    public static void main(String[] args) throws IOException, ReflectiveOperationException {
        List<String> lines = Files.readAllLines(Path.of("README.md"));
        ReadmeTest test = new ReadmeTest();
        for (String line : lines) {
            if (line.startsWith("x.")) test.line(line);
        }
        Check.holds("each section is shown", test.called.containsAll(List.of("product", "method", "go", "heads", "band", "listen", "fill")));
        test.tellsHowToRun(String.join("\n", lines));
        Check.finish();
    }

    private void line(String line) throws ReflectiveOperationException {
        Matcher m = CALL.matcher(line);
        boolean is = m.matches();
        Check.holds("a call with its answer: " + line, is);
        if (!is) return;
        called.add(m.group(1));
        long[] numbers = numbers(m.group(2));
        Check.due("README.md: " + line, answer(m.group(1), numbers), Long.parseLong(m.group(3)));
        if (m.group(1).equals("feed")) fed(m.group(4), numbers);
    }

    private static long[] numbers(String list) {
        if (list.isEmpty()) return new long[0];
        String[] parts = list.split(", ");
        long[] numbers = new long[parts.length];
        for (int i = 0; i < parts.length; i++) numbers[i] = Long.parseLong(parts[i].replace("L", ""));
        return numbers;
    }

    private long answer(String name, long[] numbers) throws ReflectiveOperationException {
        for (Method method : BelfryHouse.class.getMethods()) {
            if (!method.getName().equals(name) || method.getParameterCount() != numbers.length) continue;
            Class<?>[] types = method.getParameterTypes();
            Object[] values = new Object[numbers.length];
            for (int i = 0; i < values.length; i++) {
                if (types[i] == int.class) values[i] = Math.toIntExact(numbers[i]);
                else values[i] = numbers[i];
            }
            return ((Number) method.invoke(x, values)).longValue();
        }
        throw new NoSuchMethodException(name);
    }

    /** The text that is told behind a feed is what it feeds. */
    private static void fed(String told, long[] numbers) {
        Matcher m = FED.matcher(told);
        StringBuilder text = new StringBuilder();
        for (int i = 0; i < numbers[0]; i++) text.append((char) (numbers[1] >>> 8 * i & 255));
        Check.holds("README.md feeds " + text + ", not" + told, m.matches() && m.group(1).contentEquals(text));
    }

    private void tellsHowToRun(String readme) {
        Check.holds("it tells of .ci/run", readme.contains("\n    .ci/run\n") && Files.isExecutable(Path.of(".ci/run")));
        Check.holds("it tells of the class", Files.exists(Path.of("src/main/java/BelfryHouse.java")) && readme.contains("src/main/java/BelfryHouse.java"));
    }
}
