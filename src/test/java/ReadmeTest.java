import java.io.IOException;
import java.lang.reflect.Method;
import java.lang.reflect.Modifier;
import java.lang.reflect.Parameter;
import java.nio.file.Files;
import java.nio.file.Path;
import java.util.Set;
import java.util.TreeSet;
import java.util.regex.Matcher;
import java.util.regex.Pattern;

/** README.md tells the truth: its example answers what stands beside it, its table has every call. */
public final class ReadmeTest {
    private static final Pattern EXAMPLE = Pattern.compile("(?s)```java\n(.*?)```");
    private static final Pattern MAKE = Pattern.compile("BusSleep x = new BusSleep\\((\\d+)\\); +//.*");
    private static final Pattern CALL = Pattern.compile("x\\.(\\w+)\\((.*?)\\); +// (-?\\d+|true|false)(:.*)?");

    private static final Check CHECK = new Check();

    public static void main(String[] args) throws IOException, ReflectiveOperationException {
        String readme = Files.readString(Path.of("README.md"));
        example(readme);
        table(readme);
        CHECK.end();
    }

    private static void example(String readme) throws ReflectiveOperationException {
        Matcher block = EXAMPLE.matcher(readme);
        CHECK.due("there is an example", block.find(), true);
        Set<String> used = new TreeSet<>();
        BusSleep x = null;
        for (String line : block.group(1).split("\n")) {
            Matcher make = MAKE.matcher(line);
            Matcher call = CALL.matcher(line);
            if (make.matches()) {
                x = new BusSleep(Integer.parseInt(make.group(1)));
            } else if (call.matches()) {
                CHECK.due(line, answer(x, call.group(1), call.group(2)).equals(call.group(3)), true);
                used.add(call.group(1));
            } else {
                CHECK.due("understood: " + line, false, true);
            }
        }
        CHECK.due("methods in the example: " + used, used.size(), 12);
    }

    private static String answer(BusSleep x, String name, String written) throws ReflectiveOperationException {
        Method method = method(name);
        Parameter[] parameters = method.getParameters();
        String[] texts = written.split(", ");
        Object[] values = new Object[parameters.length];
        for (int i = 0; i < values.length; i++) {
            values[i] = value(parameters[i].getType(), texts[i]);
        }
        return String.valueOf(method.invoke(x, values));
    }

    private static Method method(String name) throws NoSuchMethodException {
        for (Method method : BusSleep.class.getDeclaredMethods()) {
            if (method.getName().equals(name) && Modifier.isPublic(method.getModifiers())) {
                return method;
            }
        }
        throw new NoSuchMethodException(name);
    }

    private static Object value(Class<?> type, String text) {
        if (type == boolean.class) {
            return Boolean.valueOf(text);
        }
        if (type == long.class) {
            return Long.valueOf(text);
        }
        return Integer.valueOf(text);
    }

    private static void table(String readme) {
        CHECK.due("the table has the constructor", readme.contains("\n| `new BusSleep(int nodes)` |"), true);
        for (Method method : BusSleep.class.getDeclaredMethods()) {
            if (Modifier.isPublic(method.getModifiers())) {
                String row = "\n\\| `" + method.getReturnType() + " " + method.getName() + "\\("
                    + types(method) + "\\)` \\|";
                CHECK.due("the table has " + row, Pattern.compile(row).matcher(readme).find(), true);
            }
        }
    }

    private static String types(Method method) {
        StringBuilder text = new StringBuilder();
        for (Class<?> type : method.getParameterTypes()) {
            text.append(text.length() == 0 ? "" : ", ").append(type.getName()).append(" \\w+");
        }
        return text.toString();
    }
}
