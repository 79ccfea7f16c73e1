import java.io.IOException;
import java.lang.reflect.InvocationTargetException;
import java.lang.reflect.Method;
import java.lang.reflect.Modifier;
import java.nio.charset.StandardCharsets;
import java.nio.file.Files;
import java.nio.file.Path;
import java.util.Set;
import java.util.TreeSet;
import java.util.regex.Matcher;
import java.util.regex.Pattern;

/** Runs the examples of README.md: each line of one is a call with its answer behind it. */
public final class ReadmeTest {
    private static final Check check = new Check();
    private static final String FIRST_LINE = "RoverLocator x = new RoverLocator();";
    private static final Pattern EXAMPLE = Pattern.compile("(?s)```java\n(.*?)```");
    private static final Pattern CALL =
        Pattern.compile("x\\.(\\w+)\\(([^()]*)\\); +// (throws \\w+|-?\\w+)(: .+)?");
    private static final Set<String> shown = new TreeSet<>();

    public static void main(String[] args) throws IOException, IllegalAccessException {
        Matcher examples = EXAMPLE.matcher(Files.readString(Path.of("README.md"), StandardCharsets.UTF_8));
        int number = 0;
        while (examples.find()) {
            number++;
            example(examples.group(1).split("\n"), "example " + number);
        }
        check.due("examples", number, 7);
        everyMethod();
        check.end("ReadmeTest");
    }

    private static void example(String[] lines, String name) throws IllegalAccessException {
        check.due(name + " begins with", lines[0], FIRST_LINE);
        RoverLocator x = new RoverLocator();
        for (int i = 1; i < lines.length; i++) {
            Matcher call = CALL.matcher(lines[i]);
            if (call.matches()) {
                String got = answer(x, call.group(1), call.group(2));
                check.due(name + ": " + lines[i], got, call.group(3));
            } else {
                check.tell(name + " has no call in the line " + lines[i]);
            }
        }
    }

    private static Method method(String name) {
        for (Method each : RoverLocator.class.getDeclaredMethods()) {
            if (Modifier.isPublic(each.getModifiers()) && each.getName().equals(name)) {
                return each;
            }
        }
        return null;
    }

    private static String answer(RoverLocator x, String name, String list) throws IllegalAccessException {
        Method method = method(name);
        String[] texts = list.isEmpty() ? new String[0] : list.split(", ");
        if (method == null || method.getParameterCount() != texts.length) {
            return "no such method";
        }
        shown.add(name);
        Object[] arguments = new Object[texts.length];
        for (int i = 0; i < texts.length; i++) {
            boolean truth = method.getParameterTypes()[i] == boolean.class;
            arguments[i] = truth ? (Object) Boolean.valueOf(texts[i]) : (Object) Integer.decode(texts[i]);
        }
        try {
            return String.valueOf(method.invoke(x, arguments));
        } catch (InvocationTargetException e) {
            return "throws " + e.getCause().getClass().getSimpleName();
        }
    }

    private static void everyMethod() {
        for (Method method : RoverLocator.class.getDeclaredMethods()) {
            if (Modifier.isPublic(method.getModifiers())) {
                check.due("an example shows " + method.getName(), shown.contains(method.getName()), true);
            }
        }
    }
}
