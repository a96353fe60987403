import java.io.IOException;
import java.lang.reflect.Field;
import java.lang.reflect.Method;
import java.lang.reflect.Modifier;
import java.nio.file.Files;
import java.nio.file.Path;
import java.util.regex.Matcher;
import java.util.regex.Pattern;

/** README.md tells the truth: its example answers what stands behind each call, and it names all that is public. */
public final class ReadmeTest {
    private static final Pattern CALL = Pattern.compile("x\\.(\\w+)\\(([-\\d, ]*)\\); +// (-?\\d+): .*");

    private ReadmeTest() {
    }

    public static void main(String[] args) throws IOException, ReflectiveOperationException {
        String text = Files.readString(Path.of("README.md"));
        example(text);
        names(text);
        Check.end();
    }

    private static void example(String text) throws ReflectiveOperationException {
        Matcher block = Pattern.compile("(?s)```java\n(.*?)```").matcher(text);
        Check.due("ReadmeTest, an example", block.find() ? 1 : 0, 1);
        String[] lines = block.group(1).split("\n");
        Check.due("ReadmeTest, it makes an object", lines[0].startsWith("KeyKeepers x = new KeyKeepers();") ? 1 : 0, 1);
        KeyKeepers x = new KeyKeepers();
        for (int k = 1; k < lines.length; k++) {
            Matcher call = CALL.matcher(lines[k]);
            Check.due("ReadmeTest, a call and its answer: " + lines[k], call.matches() ? 1 : 0, 1);
            Check.due("ReadmeTest, " + lines[k], answer(x, call.group(1), call.group(2)), Integer.parseInt(call.group(3)));
        }
    }

    private static int answer(KeyKeepers x, String name, String numbers) throws ReflectiveOperationException {
        String[] parts = numbers.isEmpty() ? new String[0] : numbers.split(", ");
        Class<?>[] types = new Class<?>[parts.length];
        Object[] values = new Object[parts.length];
        for (int k = 0; k < parts.length; k++) {
            types[k] = int.class;
            values[k] = Integer.valueOf(parts[k]);
        }
        return (Integer) KeyKeepers.class.getMethod(name, types).invoke(x, values);
    }

    private static void names(String text) throws ReflectiveOperationException {
        for (Method method : KeyKeepers.class.getDeclaredMethods()) {
            if (Modifier.isPublic(method.getModifiers())) {
                has(text, "`" + method.getName() + "(");
            }
        }
        for (Field field : KeyKeepers.class.getDeclaredFields()) {
            if (Modifier.isPublic(field.getModifiers())) {
                has(text, "| `" + field.getName() + "` | " + field.getInt(null) + " |");
            }
        }
    }

    private static void has(String text, String part) {
        Check.due("ReadmeTest, README.md has " + part, text.contains(part) ? 1 : 0, 1);
    }
}
