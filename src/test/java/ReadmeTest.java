import java.io.IOException;
import java.lang.reflect.Method;
import java.lang.reflect.Modifier;
import java.nio.file.Files;
import java.nio.file.Path;
import java.util.Arrays;
import java.util.regex.Matcher;
import java.util.regex.Pattern;

/** The examples of README.md answer what stands behind them there, and its table has every call of the face. */
public final class ReadmeTest {
    private static final Pattern CALL = Pattern.compile("x\\.(\\w+)\\(([-\\d, ]*)\\);\\s*//\\s*(-?\\d+)?.*");

    private ReadmeTest() {
    }

    public static void main(String[] args) throws IOException, ReflectiveOperationException {
        String text = Files.readString(Path.of("README.md"));
        int examples = 0;
        for (String part : text.split("```java\n")) {
            if (part.startsWith("JudgedCodes x = new JudgedCodes();\n")) {
                follow(part.substring(0, part.indexOf("```")));
                examples++;
            }
        }
        Check.due("examples", examples, 2);
        for (Method method : JudgedCodes.class.getDeclaredMethods()) {
            if (Modifier.isPublic(method.getModifiers())) {
                String head = "| `" + method.getName() + "(";
                Check.due("the table has " + head, text.contains(head) ? 1 : 0, 1);
            }
        }
        Check.end();
    }

    private static void follow(String example) throws ReflectiveOperationException {
        JudgedCodes x = new JudgedCodes();
        String[] lines = example.split("\n");
        for (String line : Arrays.copyOfRange(lines, 1, lines.length)) {
            Matcher call = CALL.matcher(line);
            if (!call.matches()) {
                Check.due("a call is to be read in: " + line, 0, 1);
                continue;
            }
            String want = call.group(3) == null ? "none" : call.group(3);
            Object answer = answer(x, call.group(1), call.group(2));
            String got = answer == null ? "none" : answer.toString();
            Check.due(line + " -- it answers " + got + ", and that this is so", got.equals(want) ? 1 : 0, 1);
        }
    }

    private static Object answer(JudgedCodes x, String name, String numbers) throws ReflectiveOperationException {
        String[] texts = numbers.isBlank() ? new String[0] : numbers.split(", ");
        Object[] values = new Object[texts.length];
        Class<?>[] kinds = new Class<?>[texts.length];
        for (int i = 0; i < texts.length; i++) {
            values[i] = Integer.valueOf(texts[i]);
            kinds[i] = int.class;
        }
        return JudgedCodes.class.getMethod(name, kinds).invoke(x, values);
    }
}
