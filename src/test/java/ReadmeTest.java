import java.io.IOException;
import java.lang.reflect.Method;
import java.nio.file.Files;
import java.nio.file.Path;
import java.util.regex.Matcher;
import java.util.regex.Pattern;

/** The examples of README.md: each text is fed, each call made, and its answer is the number behind it. */
public final class ReadmeTest {
    private static final Pattern TEXT = Pattern.compile("String text = \"(.*)\";");
    private static final Pattern CALL = Pattern.compile("x\\.(\\w+)\\(([-\\d, ]*)\\);\\s+// (-?\\d+)\\b.*");
    private static final int CALLS = 17;

    private static long call(HorseSigns x, String name, String numbers) throws ReflectiveOperationException {
        String[] told = numbers.isEmpty() ? new String[0] : numbers.split(", ");
        Class<?>[] types = new Class<?>[told.length];
        Object[] args = new Object[told.length];
        for (int i = 0; i < told.length; i++) {
            types[i] = int.class;
            args[i] = Integer.valueOf(told[i]);
        }
        Method method = HorseSigns.class.getMethod(name, types);
        return ((Number) method.invoke(x, args)).longValue();
    }

    public static void main(String[] args) throws IOException, ReflectiveOperationException {
        HorseSigns x = new HorseSigns();
        int calls = 0;
        for (String line : Files.readAllLines(Path.of("README.md"))) {
            Matcher text = TEXT.matcher(line);
            Matcher call = CALL.matcher(line);
            if (text.matches()) {
                text.group(1).chars().forEach(x::feed);
            } else if (call.matches()) {
                calls++;
                Check.due(line, call(x, call.group(1), call.group(2)), Long.parseLong(call.group(3)));
            }
        }
        Check.due("calls found in README.md", calls, CALLS);
        Check.finish("ReadmeTest");
    }
}
