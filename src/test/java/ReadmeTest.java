import java.io.IOException;
import java.lang.reflect.InvocationTargetException;
import java.lang.reflect.Method;
import java.nio.file.Files;
import java.nio.file.Path;
import java.util.regex.Matcher;
import java.util.regex.Pattern;

/** The calls that README.md shows answer what it says behind them. */
public final class ReadmeTest {
    private static final Pattern CALL =
        Pattern.compile("city\\.(\\w+)\\(([^)]*)\\); *// (throws an? )?(-?\\w+).*");

    public static void main(String[] args) throws IOException, IllegalAccessException {
        Path root = Path.of(args.length > 0 ? args[0] : ".");
        BinWard city = new BinWard();
        int found = 0;
        for (String line : Files.readAllLines(root.resolve("README.md"))) {
            Matcher shown = CALL.matcher(line);
            if (shown.matches()) {
                found++;
                String got = answer(city, shown.group(1), numbers(shown.group(2)));
                Check.yes(line + " answered " + got, got.equals(shown.group(4)));
            } else {
                Check.no(line + " tells an answer", line.startsWith("city."));
            }
        }
        Check.yes("README.md shows calls", found > 10);
        Check.end();
    }

    private static Object[] numbers(String text) {
        if (text.isEmpty()) {
            return new Object[0];
        }
        String[] parts = text.split(", ");
        Object[] numbers = new Object[parts.length];
        for (int i = 0; i < parts.length; i++) {
            numbers[i] = Integer.valueOf(parts[i]);
        }
        return numbers;
    }

    private static String answer(BinWard city, String name, Object[] numbers)
            throws IllegalAccessException {
        try {
            return String.valueOf(method(name).invoke(city, numbers));
        } catch (InvocationTargetException e) {
            return e.getCause().getClass().getSimpleName();
        }
    }

    private static Method method(String name) {
        for (Method method : BinWard.class.getMethods()) {
            if (method.getName().equals(name)) {
                return method;
            }
        }
        throw new IllegalArgumentException("no call " + name);
    }
}
