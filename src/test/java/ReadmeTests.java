import java.io.IOException;
import java.lang.reflect.Method;
import java.nio.charset.StandardCharsets;
import java.nio.file.Files;
import java.nio.file.Path;
import java.util.regex.Matcher;
import java.util.regex.Pattern;

/** That the calls in README.md, made one behind the other on one object, answer what it tells behind them. */
public final class ReadmeTests extends Checks {
    private static final Pattern TEXT = Pattern.compile("(?m)^String text = \"(.*)\";$");
    private static final Pattern CALL = Pattern.compile("(?m)^pass\\.(\\w+)\\((.*)\\); +// (-?\\d+)\\b");
    /** What CALL passes over, because it is written in another way, would be told and tested by nobody. */
    private static final Pattern LINE_OF_CALL = Pattern.compile("(?m)^pass\\.");

    public static void main(String[] args) throws IOException, ReflectiveOperationException {
        about("README.md");
        String readme = Files.readString(Path.of("README.md"), StandardCharsets.UTF_8);
        Matcher text = TEXT.matcher(readme);
        BlindLanterns x = text.find() ? written(text.group(1)) : new BlindLanterns();
        due("bytes of a text", x.count(7) > 0 ? 1 : 0, 1);
        int calls = 0;
        Matcher call = CALL.matcher(readme);
        while (call.find()) {
            String told = call.group(1) + "(" + call.group(2) + ")";
            due(told, answerOf(x, call.group(1), call.group(2)), Integer.parseInt(call.group(3)));
            calls++;
        }
        due("calls are told", calls > 0 ? 1 : 0, 1);
        due("calls whose answer is told", calls, (int) LINE_OF_CALL.matcher(readme).results().count());
        end("README.md tells what the calls answer");
    }

    private static int answerOf(BlindLanterns x, String name, String numbers) throws ReflectiveOperationException {
        String[] told = numbers.isEmpty() ? new String[0] : numbers.split(", ");
        for (Method method : BlindLanterns.class.getMethods()) {
            if (method.getName().equals(name) && method.getParameterCount() == told.length) {
                return (int) method.invoke(x, valuesOf(told, method.getParameterTypes()));
            }
        }
        throw new NoSuchMethodException(name);
    }

    private static Object[] valuesOf(String[] told, Class<?>[] types) {
        Object[] values = new Object[told.length];
        for (int i = 0; i < told.length; i++) {
            values[i] = types[i] == boolean.class ? (Object) Boolean.parseBoolean(told[i]) : Integer.valueOf(told[i]);
        }
        return values;
    }
}
