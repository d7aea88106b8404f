import java.io.IOException;
import java.lang.reflect.Method;
import java.nio.file.Files;
import java.nio.file.Path;
import java.util.Arrays;
import java.util.List;
import java.util.regex.Matcher;
import java.util.regex.Pattern;
import java.util.stream.Collectors;
import java.util.stream.Stream;

/** The calls that README.md shows answer what is said behind them, and it names every test. */
public final class ReadmeTest extends Checks {
    private static final Pattern CALL = Pattern.compile(" {4}x\\.(\\w+)\\(([-0-9, ]*)\\); +// (-?\\d+): .*");
    private static final Pattern TEXT = Pattern.compile(" {4}write\\(x, (\\d), \"(.*)\"\\);");
    private static final Pattern TEST_NAMED = Pattern.compile("`(\\w+Test)`");

    public static void main(String[] args) throws Exception {
        about = "README.md";
        List<String> readme = Files.readAllLines(Path.of("README.md"));
        calls(readme);
        tests(readme);
        end("README.md says what is so");
    }

    private static void calls(List<String> readme) throws Exception {
        BreatheOut x = new BreatheOut();
        int read = 0;
        for (String line : readme) {
            Matcher call = CALL.matcher(line);
            Matcher text = TEXT.matcher(line);
            if (call.matches()) {
                due(line.trim(), answer(x, call.group(1), call.group(2)), Long.parseLong(call.group(3)));
                read++;
            } else if (text.matches()) {
                rowOf(x, Integer.parseInt(text.group(1)), 0, text.group(2));
            } else if (line.startsWith("    x.")) {
                due("a line that can't be read: " + line, 1, 0);
            }
        }
        due("calls are read there", read >= 15 ? 1 : 0, 1);
    }

    private static long answer(BreatheOut x, String name, String numbers) throws Exception {
        Object[] values = numbers.isEmpty() ? new Object[0] : Arrays.stream(numbers.split(", *")).map(Integer::valueOf).toArray();
        Class<?>[] types = new Class<?>[values.length];
        Arrays.fill(types, int.class);
        Method m = BreatheOut.class.getDeclaredMethod(name, types);
        return ((Number) m.invoke(x, values)).longValue();
    }

    private static void tests(List<String> readme) throws IOException {
        Matcher named = TEST_NAMED.matcher(String.join("\n", readme));
        List<String> told = named.results().map(m -> m.group(1)).distinct().sorted().collect(Collectors.toList());
        List<String> there;
        try (Stream<Path> files = Files.list(Path.of("src/test/java"))) {
            there = files.map(f -> f.getFileName().toString()).filter(f -> f.endsWith("Test.java"))
                .map(f -> f.substring(0, f.length() - 5)).sorted().collect(Collectors.toList());
        }
        due("the tests named, " + told + ", are those there, " + there, told.equals(there) ? 1 : 0, 1);
    }
}
