import java.io.IOException;
import java.lang.reflect.InvocationTargetException;
import java.lang.reflect.Method;
import java.nio.file.Files;
import java.nio.file.Path;
import java.util.regex.Matcher;
import java.util.regex.Pattern;

/** README.md shows calls with what they answer; here they are called. */
public final class ReadmeTest {
    private static final Check CHECK = new Check("ReadmeTest");
    private static final Pattern CALL = Pattern.compile("^net\\.(\\w+)\\(([^)]*)\\);\\s+// (-?\\d+)\\b.*$");

    public static void main(String[] args) throws IOException, IllegalAccessException, InvocationTargetException {
        PairedLines net = new PairedLines();
        int calls = 0;
        for (String row : Files.readAllLines(Path.of("README.md"))) {
            Matcher told = CALL.matcher(row);
            if (told.matches()) {
                calls++;
                CHECK.due(row, answer(net, told.group(1), told.group(2)), Long.parseLong(told.group(3)));
            } else {
                CHECK.holds("a call with its answer: " + row, !row.startsWith("net."));
            }
        }
        CHECK.holds("calls of each part of the face", calls > 30);
        CHECK.end();
    }

    private static long answer(PairedLines net, String name, String given) throws IllegalAccessException, InvocationTargetException {
        for (Method m : PairedLines.class.getMethods()) {
            if (m.getName().equals(name)) {
                return ((Number) m.invoke(net, numbers(given, m.getParameterTypes()))).longValue();
            }
        }
        throw new IllegalArgumentException(name);
    }

    private static Object[] numbers(String given, Class<?>[] types) {
        Object[] found = new Object[types.length];
        String[] each = given.split(", ");
        for (int i = 0; i < types.length; i++) {
            if (types[i] == long.class) {
                found[i] = Long.valueOf(each[i]);
            } else {
                found[i] = Integer.valueOf(each[i]);
            }
        }
        return found;
    }
}
