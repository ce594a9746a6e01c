import java.io.IOException;
import java.nio.file.Files;
import java.nio.file.Path;
import java.util.List;
import java.util.regex.Matcher;
import java.util.regex.Pattern;

/** The example of README.md: its calls are made as they stand there, and answer what stands behind them. */
public final class ReadmeTests {
    private static final Check check = new Check("README");
    private static final Pattern CALL = Pattern.compile("game\\.(\\w+)\\((.*)\\); // (-?\\d+)");
    private static final int CALLS = 11;

    public static void main(String[] args) throws IOException, ReflectiveOperationException {
        List<String> lines = Files.readAllLines(Path.of("README.md"));
        RunWorth game = new RunWorth();
        int calls = 0;
        for (String line : lines) {
            Matcher m = CALL.matcher(line);
            if (m.matches()) {
                calls++;
                check.due(line, answer(game, m.group(1), m.group(2)), Long.parseLong(m.group(3)));
            }
        }
        check.due("the calls of the example", calls, CALLS);
        check.due("calls on its object", lines.stream().filter(line -> line.contains("game.")).count(), CALLS);
        check.end();
    }

    private static long answer(RunWorth game, String name, String told) throws ReflectiveOperationException {
        String[] parts = told.isEmpty() ? new String[0] : told.split(", ");
        Class<?>[] kinds = new Class<?>[parts.length];
        Object[] numbers = new Object[parts.length];
        for (int i = 0; i < parts.length; i++) {
            kinds[i] = int.class;
            numbers[i] = Integer.decode(parts[i]);
        }
        return ((Number) RunWorth.class.getMethod(name, kinds).invoke(game, numbers)).longValue();
    }
}
