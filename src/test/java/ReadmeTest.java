import java.io.IOException;
import java.lang.reflect.Method;
import java.nio.file.Files;
import java.nio.file.Path;
import java.util.regex.Matcher;
import java.util.regex.Pattern;

/** Runs the example of README.md line by line; where a comment begins with an answer, that is due. */
public final class ReadmeTest {
    private static final Pattern CALL = Pattern.compile("desk\\.(\\w+)\\((.*?)\\);\\s*(?:// (.*))?");
    private static final Pattern ANSWER = Pattern.compile("(-?\\d+|true|false)\\b.*");

    private static final ModelDesk DESK = new ModelDesk();
    private static int calls = 0;
    private static int answers = 0;

    private ReadmeTest() {
    }

    public static void main(String[] args) throws IOException, ReflectiveOperationException {
        String text = Files.readString(Path.of("README.md"));
        int begin = text.indexOf("```java\n");
        int end = text.indexOf("\n```\n", begin);
        for (String line : text.substring(begin, end).split("\n")) {
            Matcher call = CALL.matcher(line);
            if (call.matches()) {
                run(line, call.group(1), call.group(2), call.group(3));
            }
        }
        Due.is("the example makes a model", calls - answers > 10, true);
        Due.is("the example asks questions", answers > 10, true);
        Due.end();
    }

    private static void run(String line, String name, String arguments, String comment)
            throws ReflectiveOperationException {
        Object got = answer(name, arguments.isEmpty() ? new String[0] : arguments.split(", "));
        calls++;
        Matcher wanted = ANSWER.matcher(comment == null ? "" : comment);
        boolean asks = wanted.matches();
        answers += asks ? 1 : 0;
        String want = asks ? wanted.group(1) : "true";
        Due.is(line + " -- answered " + got + " and not " + want, got.toString().equals(want), true);
    }

    private static Object answer(String name, String[] words) throws ReflectiveOperationException {
        for (Method method : ModelDesk.class.getDeclaredMethods()) {
            if (method.getName().equals(name)) {
                return method.invoke(DESK, values(method.getParameterTypes(), words));
            }
        }
        throw new NoSuchMethodException(name);
    }

    private static Object[] values(Class<?>[] types, String[] words) {
        Object[] values = new Object[types.length];
        for (int i = 0; i < types.length; i++) {
            values[i] = types[i] == int.class ? (Object) Integer.valueOf(words[i])
                    : (Object) Boolean.valueOf(words[i]);
        }
        return values;
    }
}
