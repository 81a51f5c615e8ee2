import java.io.IOException;
import java.lang.reflect.InvocationTargetException;
import java.lang.reflect.Method;
import java.nio.file.Files;
import java.nio.file.Path;
import java.util.HashMap;
import java.util.Map;
import java.util.Set;
import java.util.TreeSet;
import java.util.regex.Matcher;
import java.util.regex.Pattern;

/** What README.md tells of the class: each call that it shows answers what stands behind it, and it names every call. */
public final class ReadmeTest extends Check {
    private static final Pattern NEW = Pattern.compile("GoInland x = new GoInland\\(\\);");
    private static final Pattern CALL = Pattern.compile("x\\.(\\w+)\\((.*?)\\); +// (-?\\d+): .+");
    private static final Pattern FED = Pattern.compile("for \\(char letter : \"(.+)\"\\.toCharArray\\(\\)\\) x\\.feed\\(letter\\);");
    private static final int LEAST_SHOWN = 10;

    private static final Map<String, Method> FACE = new HashMap<>();
    private static int shown;

    public static void main(String[] args) throws IOException {
        for (Method method : GoInland.class.getMethods()) {
            if (method.getDeclaringClass() == GoInland.class) {
                FACE.put(method.getName(), method);
            }
        }
        String readme = Files.readString(Path.of("README.md"));
        promise("1 to 44, README.md");
        Matcher block = Pattern.compile("```java\n(.*?)```", Pattern.DOTALL).matcher(readme);
        while (block.find()) {
            playBlock(block.group(1));
        }
        due("calls shown, " + LEAST_SHOWN + " at least", Math.min(shown, LEAST_SHOWN), LEAST_SHOWN);
        dueText("the calls that the table names", namedInTable(readme).toString(), new TreeSet<>(FACE.keySet()).toString());
        end();
    }

    private static void playBlock(String block) {
        GoInland x = new GoInland();
        for (String line : block.split("\n")) {
            Matcher call = CALL.matcher(line);
            Matcher fed = FED.matcher(line);
            if (call.matches()) {
                shown++;
                due(line, call(x, call.group(1), call.group(2)), Long.parseLong(call.group(3)));
            } else if (fed.matches()) {
                tellLetters(x, fed.group(1));
            } else {
                dueText("a line that is no call", NEW.matcher(line).matches() ? "" : line, "");
            }
        }
    }

    private static long call(GoInland x, String name, String arguments) {
        Method method = FACE.get(name);
        String[] told = arguments.isEmpty() ? new String[0] : arguments.split(", ");
        Object[] given = new Object[told.length];
        for (int i = 0; i < told.length; i++) {
            given[i] = Integer.parseInt(told[i]);
        }
        try {
            return ((Number) method.invoke(x, given)).longValue();
        } catch (IllegalAccessException | InvocationTargetException thrown) {
            throw new IllegalStateException(name + "(" + arguments + ")", thrown);
        }
    }

    private static Set<String> namedInTable(String readme) {
        Set<String> named = new TreeSet<>();
        for (String line : readme.split("\n")) {
            Matcher name = Pattern.compile("`(\\w+)`").matcher(line.startsWith("| ") ? line : "");
            while (name.find()) {
                named.add(name.group(1));
            }
        }
        return named;
    }
}
