import java.io.IOException;
import java.lang.reflect.InvocationTargetException;
import java.lang.reflect.Method;
import java.nio.file.Files;
import java.nio.file.Path;
import java.util.Arrays;
import java.util.NoSuchElementException;
import java.util.regex.Matcher;
import java.util.regex.Pattern;

/** The example of README.md answers as its comments say. Run where README.md is. */
public final class ReadmeTest {
    private static final Pattern TELL = Pattern.compile("tell\\(x, \"(.*)\"\\);");
    private static final Pattern CALL = Pattern.compile("x\\.(\\w+)\\((.*)\\); +// (-?\\d+|true|false|throws \\w+)\\b.*");
    private static final Pattern SAID_NOTHING_OF = Pattern.compile("x\\.\\w+\\(.*");

    public static void main(String[] args) throws IOException, ReflectiveOperationException {
        RungMoney x = new RungMoney();
        int calls = 0;
        for (String line : Files.readAllLines(Path.of("README.md"))) {
            Matcher tell = TELL.matcher(line);
            Matcher call = CALL.matcher(line);
            if (tell.matches()) {
                Check.put(x, tell.group(1));
            } else if (call.matches()) {
                Check.same(line, answer(x, call.group(1), call.group(2)), call.group(3));
                calls++;
            } else {
                Check.due("without an answer that can be read: " + line, SAID_NOTHING_OF.matcher(line).matches(), false);
            }
        }
        Check.due("that README.md has an example", calls > 0, true);
        Check.finish();
    }

    private static String answer(RungMoney x, String name, String numbers) throws ReflectiveOperationException {
        Object[] given = numbers.isEmpty() ? new Object[0] : Arrays.stream(numbers.split(", ")).map(Integer::valueOf).toArray();
        Class<?>[] sorts = new Class<?>[given.length];
        Arrays.fill(sorts, int.class);
        Method method = RungMoney.class.getMethod(name, sorts);
        try {
            return String.valueOf(method.invoke(x, given));
        } catch (InvocationTargetException e) {
            return e.getCause() instanceof NoSuchElementException ? "throws NoSuchElementException" : String.valueOf(e.getCause());
        }
    }
}
