import java.lang.reflect.Method;
import java.nio.file.Files;
import java.nio.file.Path;
import java.util.regex.Matcher;
import java.util.regex.Pattern;

/** Each call of README.md's example answers the number that stands behind it. */
public final class ReadmeTests {
    private static final Pattern CALL = Pattern.compile("hour\\.(\\w+)\\((.*)\\); *// (-?\\d+)\\b.*");
    private static final int LEAST_CALLS = 20;

    public static void main(String[] args) throws Exception {
        HourClock hour = new HourClock();
        int calls = 0;
        for (String line : Files.readAllLines(Path.of("README.md"))) {
            Matcher call = CALL.matcher(line);
            if (call.matches()) {
                calls++;
                Check.same(line, answer(hour, call.group(1), call.group(2)), Long.parseLong(call.group(3)));
            } else if (line.startsWith("hour.")) {
                Check.tell("no answer stands behind " + line);
            }
        }
        if (calls < LEAST_CALLS) {
            Check.tell("README.md has only " + calls + " calls");
        }
        Check.end("ReadmeTests");
    }

    private static long answer(HourClock hour, String name, String inBrackets) throws Exception {
        String[] told = inBrackets.isEmpty() ? new String[0] : inBrackets.split(", ");
        Object[] arguments = new Object[told.length];
        Class<?>[] types = new Class<?>[told.length];
        for (int i = 0; i < told.length; i++) {
            arguments[i] = number(told[i]);
            types[i] = int.class;
        }
        Method method = HourClock.class.getMethod(name, types);
        return ((Number) method.invoke(hour, arguments)).longValue();
    }

    private static int number(String told) {
        if (told.equals("HourClock.NONE")) {
            return HourClock.NONE;
        }
        return told.startsWith("'") ? told.charAt(1) : Integer.parseInt(told);
    }
}
