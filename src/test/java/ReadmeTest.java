import java.lang.reflect.Method;
import java.lang.reflect.Modifier;
import java.nio.file.Files;
import java.nio.file.Path;
import java.util.regex.Matcher;
import java.util.regex.Pattern;

/** README.md shows every call of the face, and the calls in its example answer what stands behind them. */
public final class ReadmeTest {

    private static final Check CHECK = new Check("ReadmeTest");

    private static final Pattern EXAMPLE = Pattern.compile("(?m)^net\\.(\\w+)\\(([-0-9, ]*)\\); +// (true|false|-?\\d+)");

    public static void main(String[] args) throws Exception {
        String readme = Files.readString(Path.of("README.md"));
        exampleAnswers(readme);
        everyCallIsShown(readme);
        CHECK.end();
    }

    private static void exampleAnswers(String readme) throws ReflectiveOperationException {
        FloodingNet net = new FloodingNet();
        int lines = 0;
        Matcher example = EXAMPLE.matcher(readme);
        while (example.find()) {
            lines++;
            Object answer = method(example.group(1)).invoke(net, numbers(example.group(2)));
            CHECK.due(example.group(), String.valueOf(answer), example.group(3));
        }
        CHECK.due("lines with an answer", lines, readme.split("\nnet\\.", -1).length - 1);
    }

    private static void everyCallIsShown(String readme) {
        for (Method method : FloodingNet.class.getDeclaredMethods()) {
            if (Modifier.isPublic(method.getModifiers())) {
                CHECK.due(method + " in the example", readme.contains("\nnet." + method.getName() + "("), true);
                CHECK.due(method + " in the table", readme.contains("`" + method.getName() + "("), true);
            }
        }
    }

    private static Method method(String name) throws NoSuchMethodException {
        for (Method method : FloodingNet.class.getMethods()) {
            if (method.getName().equals(name)) {
                return method;
            }
        }
        throw new NoSuchMethodException(name);
    }

    private static Object[] numbers(String list) {
        if (list.isEmpty()) {
            return new Object[0];
        }
        String[] parts = list.split(", ");
        Object[] numbers = new Object[parts.length];
        for (int i = 0; i < parts.length; i++) {
            numbers[i] = Integer.valueOf(parts[i]);
        }
        return numbers;
    }
}
