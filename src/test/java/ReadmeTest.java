import java.io.IOException;
import java.lang.reflect.Method;
import java.nio.file.Files;
import java.nio.file.Path;
import java.util.regex.Matcher;
import java.util.regex.Pattern;

/** The example of README.md: each call is made, and the answer that stands behind it is due. */
public final class ReadmeTest {
    private static final Pattern CALL = Pattern.compile("storey\\.(\\w+)\\((.*)\\);\\s*// (-?\\d+|true|false)\\b.*");

    private static int wrong = 0;
    private static int calls = 0;

    public static void main(String[] args) throws IOException {
        SpaceCycles storey = new SpaceCycles();
        for (String line : Files.readAllLines(Path.of("README.md"))) {
            if (line.startsWith("storey.")) hold(storey, line);
        }
        if (calls == 0) say("no call stands in README.md");
        System.out.println(wrong == 0 ? calls + " calls of README.md are answered so" : wrong + " answers are not as due");
        if (wrong != 0) System.exit(1);
    }

    private static void say(String what) {
        wrong++;
        System.out.println(what);
    }

    private static void hold(SpaceCycles storey, String line) {
        calls++;
        Matcher call = CALL.matcher(line);
        if (!call.matches()) {
            say("not to be read: " + line);
            return;
        }
        try {
            String got = "" + answer(storey, call.group(1), call.group(2));
            if (!got.equals(call.group(3))) say(line + "  answered " + got);
        } catch (ReflectiveOperationException e) {
            say(line + "  threw " + e + ", " + e.getCause());
        }
    }

    private static Object answer(SpaceCycles storey, String name, String written) throws ReflectiveOperationException {
        String[] numbers = written.isEmpty() ? new String[0] : written.split(", ");
        Class<?>[] types = new Class<?>[numbers.length];
        Object[] values = new Object[numbers.length];
        for (int k = 0; k < numbers.length; k++) {
            types[k] = int.class;
            values[k] = Integer.valueOf(numbers[k]);
        }
        Method method = SpaceCycles.class.getMethod(name, types);
        return method.invoke(storey, values);
    }
}
