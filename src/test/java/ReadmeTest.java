import java.io.IOException;
import java.lang.reflect.Method;
import java.nio.file.Files;
import java.nio.file.Path;
import java.util.HashMap;
import java.util.Map;
import java.util.regex.Matcher;
import java.util.regex.Pattern;

/** Runs the example of README.md, line by line: each answer that is told there must be the one that is given. */
public final class ReadmeTest {
    private static final Pattern TEXT = Pattern.compile("Feed\\.text\\(market, \"([^\"]*)\"\\);");
    private static final Pattern CALL = Pattern.compile("market\\.(\\w+)\\(([^)]*)\\); +// (-?\\d+|true|false).*");

    private static final Map<String, Method> CALLS = new HashMap<>();

    public static void main(String[] args) throws IOException, ReflectiveOperationException {
        for (Method method : OnlyDifferences.class.getDeclaredMethods()) {
            CALLS.put(method.getName(), method);
        }
        String readme = Files.readString(Path.of("README.md"));
        int start = readme.indexOf("```java\n") + "```java\n".length();
        String example = readme.substring(start, readme.indexOf("```", start));
        OnlyDifferences market = new OnlyDifferences();
        for (String line : example.split("\n")) {
            Matcher text = TEXT.matcher(line);
            Matcher call = CALL.matcher(line);
            if (text.matches()) {
                Feed.text(market, text.group(1));
            } else if (call.matches()) {
                boolean isAsTold = answer(market, call.group(1), call.group(2)).equals(call.group(3));
                Due.is("as told: " + line, isAsTold, true);
            } else {
                boolean isOther = line.isEmpty() || line.startsWith("//") || line.startsWith("OnlyDifferences ");
                Due.is("a line that can be run: " + line, isOther, true);
            }
        }
        namesAllCalls(readme);
        Due.end();
    }

    private static String answer(OnlyDifferences market, String name, String told) throws ReflectiveOperationException {
        String[] numbers = told.isEmpty() ? new String[0] : told.split(", ");
        Object[] arguments = new Object[numbers.length];
        for (int i = 0; i < numbers.length; i++) {
            arguments[i] = (int) (long) Long.decode(numbers[i]);
        }
        return String.valueOf(CALLS.get(name).invoke(market, arguments));
    }

    private static void namesAllCalls(String readme) {
        for (Method method : OnlyDifferences.class.getMethods()) {
            if (method.getDeclaringClass() == OnlyDifferences.class) {
                Due.is("named in README.md: " + method.getName(), readme.contains("`" + method.getName() + "`"), true);
            }
        }
    }
}
