import java.io.IOException;
import java.lang.reflect.Method;
import java.nio.file.Files;
import java.nio.file.Path;
import java.util.regex.Matcher;
import java.util.regex.Pattern;

/** The example of README.md: makes each of its calls and compares the answer with the number behind it. */
public final class ReadmeTest {
    private static final Checks CHECKS = new Checks("ReadmeTest");
    private static final Pattern TEXT = Pattern.compile("for \\(char c : \"([^\"]*)\"\\.toCharArray\\(\\)\\) \\{");
    private static final Pattern CALL = Pattern.compile("track\\.(\\w+)\\(([^)]*)\\);\\s*// (-?\\d+)\\b.*");

    public static void main(String[] args) throws IOException {
        ClickTrack track = new ClickTrack();
        boolean inExample = false;
        boolean isWritten = false;
        for (String line : Files.readAllLines(Path.of("README.md"))) {
            if (line.startsWith("```")) {
                inExample = line.equals("```java");
                continue;
            }
            Matcher text = TEXT.matcher(line);
            Matcher call = CALL.matcher(line);
            if (inExample && text.matches()) {
                isWritten = true;
                Checks.write(track, text.group(1));
            } else if (inExample && line.startsWith("track.")) {
                CHECKS.same("a call with its answer: " + line, true, call.matches());
                CHECKS.due(line, Long.parseLong(call.group(3)), () -> answer(track, call.group(1), call.group(2)));
            }
        }
        CHECKS.same("the example writes a text", true, isWritten);
        CHECKS.end();
    }

    private static long answer(ClickTrack track, String name, String arguments) {
        String[] told = arguments.isEmpty() ? new String[0] : arguments.split(", ");
        for (Method method : ClickTrack.class.getMethods()) {
            if (method.getName().equals(name) && method.getParameterCount() == told.length) {
                return invoked(track, method, told);
            }
        }
        throw new IllegalStateException("no call " + name + " with " + told.length + " arguments");
    }

    private static long invoked(ClickTrack track, Method method, String[] told) {
        Object[] values = new Object[told.length];
        for (int k = 0; k < told.length; k++) {
            values[k] = value(method.getParameterTypes()[k], told[k]);
        }
        try {
            Object answer = method.invoke(track, values);
            return answer instanceof Boolean is ? Checks.bit(is) : ((Number) answer).longValue();
        } catch (ReflectiveOperationException e) {
            throw new IllegalStateException(e);
        }
    }

    private static Object value(Class<?> type, String told) {
        if (type == boolean.class) {
            return Boolean.valueOf(told);
        }
        if (type == long.class) {
            return Long.valueOf(told.endsWith("L") ? told.substring(0, told.length() - 1) : told);
        }
        return Integer.valueOf(told);
    }
}
