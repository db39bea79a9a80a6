import java.lang.reflect.Method;
import java.nio.file.Files;
import java.nio.file.Path;
import java.util.List;
import java.util.Set;
import java.util.TreeSet;
import java.util.regex.Matcher;
import java.util.regex.Pattern;

/** The example of README.md: its calls, one by one, answer what it says behind them. */
public final class ForeRainReadme {
    private static final Pattern TEXT = Pattern.compile("String text = \"([^\"]*)\";");
    private static final Pattern CALL = Pattern.compile("x\\.(\\w+)\\(([^)]*)\\); +// (-?\\d+|[A-Z]+)\\b.*");
    private static final ForeRain x = new ForeRain();
    private static final Set<String> asked = new TreeSet<>();
    private static int calls = 0;
    private static int wrong = 0;

    public static void main(String[] args) throws Exception {
        String readme = Files.readString(Path.of(System.getProperty("forerain.readme", "README.md")));
        for (String line : example(readme)) {
            Matcher text = TEXT.matcher(line);
            if (text.matches()) {
                type(text.group(1));
            } else if (line.startsWith("x.")) {
                ask(line);
            }
        }
        for (Method method : ForeRain.class.getMethods()) {
            if (method.getDeclaringClass() == ForeRain.class && !asked.contains(method.getName())) {
                fail("README.md does not show " + method.getName());
            }
        }
        System.out.println(calls + " calls of README.md asked for, " + wrong + " wrong");
        if (wrong != 0) {
            System.exit(1);
        }
    }

    private static List<String> example(String readme) {
        int from = readme.indexOf("```java\n") + "```java\n".length();
        int to = readme.indexOf("```", from);
        if (from < "```java\n".length() || to < 0) {
            fail("README.md has no example");
            return List.of();
        }
        return List.of(readme.substring(from, to).split("\n"));
    }

    private static void fail(String why) {
        wrong++;
        System.out.println(why);
    }

    private static void type(String text) {
        for (int at = 0; at < text.length(); at++) {
            if (x.type(text.charAt(at), 1) != at + 1) {
                fail("the text of README.md is not taken");
            }
        }
    }

    private static void ask(String line) throws Exception {
        Matcher call = CALL.matcher(line);
        if (!call.matches()) {
            fail("no call with its answer: " + line);
            return;
        }
        long due = call.group(3).matches("[A-Z]+")
            ? ForeRain.class.getField(call.group(3)).getInt(null) : Long.parseLong(call.group(3));
        long got = answer(call.group(1), call.group(2).isEmpty() ? new String[0] : call.group(2).split(", "));
        asked.add(call.group(1));
        calls++;
        if (got != due) {
            fail("answered " + got + ": " + line);
        }
    }

    private static long answer(String name, String[] numbers) throws Exception {
        for (Method method : ForeRain.class.getMethods()) {
            if (method.getName().equals(name) && method.getParameterCount() == numbers.length) {
                Object[] values = new Object[numbers.length];
                for (int n = 0; n < values.length; n++) {
                    boolean wide = method.getParameterTypes()[n] == long.class;
                    values[n] = wide ? (Object) Long.parseLong(numbers[n]) : (Object) Integer.parseInt(numbers[n]);
                }
                return ((Number) method.invoke(x, values)).longValue();
            }
        }
        throw new NoSuchMethodException(name);
    }
}
