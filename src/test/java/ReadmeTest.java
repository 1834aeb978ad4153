import java.io.IOException;
import java.lang.reflect.Method;
import java.nio.file.Files;
import java.nio.file.Path;
import java.util.regex.Matcher;
import java.util.regex.Pattern;

/** The examples of README.md: every line of a call there is made, in turn, and answers what stands behind it. */
public final class ReadmeTest {
    private static final Pattern CALL = Pattern.compile("year\\.(\\w+)\\((.*)\\); +// (-?\\d+)\\b.*");
    private static final Pattern FEED = Pattern.compile("feed\\(year, \"(.*)\"\\);");

    public static void main(String[] args) throws IOException, ReflectiveOperationException {
        Check check = new Check("ReadmeTest");
        OrchestraYear year = new OrchestraYear();
        for (String line : Files.readAllLines(Path.of("README.md"))) {
            Matcher call = CALL.matcher(line);
            Matcher feed = FEED.matcher(line);
            if (call.matches()) {
                check.due(line, answer(year, call.group(1), call.group(2)), Long.parseLong(call.group(3)));
            } else if (feed.matches()) {
                int size = year.count(4) + feed.group(1).length();
                check.due(line, Check.feed(year, feed.group(1)), size);
            } else if (line.startsWith("year.")) {
                check.due("an example without its answer: " + line, 1, 0);
            }
        }
        check.finish();
    }

    private static long answer(OrchestraYear year, String name, String told) throws ReflectiveOperationException {
        String[] words = told.isEmpty() ? new String[0] : told.split(", ");
        for (Method method : OrchestraYear.class.getMethods()) {
            Class<?>[] types = method.getParameterTypes();
            if (method.getName().equals(name) && types.length == words.length) {
                return ((Number) method.invoke(year, arguments(types, words))).longValue();
            }
        }
        throw new IllegalStateException("no such call: " + name + "(" + told + ")");
    }

    private static Object[] arguments(Class<?>[] types, String[] words) {
        Object[] arguments = new Object[words.length];
        for (int i = 0; i < words.length; i++) {
            if (types[i] == boolean.class) {
                arguments[i] = Boolean.parseBoolean(words[i]);
            } else if (types[i] == long.class) {
                arguments[i] = Long.parseLong(words[i]);
            } else {
                arguments[i] = Integer.parseInt(words[i]);
            }
        }
        return arguments;
    }
}
