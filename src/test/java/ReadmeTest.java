import java.lang.reflect.InvocationTargetException;
import java.lang.reflect.Method;
import java.lang.reflect.Modifier;
import java.nio.charset.StandardCharsets;
import java.nio.file.Files;
import java.nio.file.Path;
import java.util.List;
import java.util.Set;
import java.util.TreeSet;
import java.util.regex.Matcher;
import java.util.regex.Pattern;

/** Makes the calls of README.md and compares their answers with those that stand behind them there. */
public final class ReadmeTest {
    private static final String NEW_OBJECT = "Migrationledger ledger = new Migrationledger();";
    private static final String ANSWER = "throws \\w+|no answer|true|false|-?[0-9]+(?:\\.[0-9]+)?";
    private static final Pattern CALL = Pattern.compile(
            "ledger\\.(\\w+)\\(([-0-9, ]*)\\); +// (" + ANSWER + ")(?:: .+)?");

    private static final Set<String> used = new TreeSet<>();
    private static Migrationledger ledger;

    public static void main(String[] args) throws Exception {
        boolean inside = false;
        int blocks = 0;
        List<String> lines = Files.readAllLines(Path.of("README.md"), StandardCharsets.UTF_8);
        for (String line : lines) {
            if (line.startsWith("```")) {
                inside = line.equals("```java");
                blocks += inside ? 1 : 0;
                ledger = null;
            } else if (inside) {
                makeCall(line);
            }
        }
        int read = blocks;
        Expect.answer("README.md has blocks of calls", true, () -> read > 0);
        Expect.answer("methods that README.md shows", methodsOfTheFace(), () -> used);
        Expect.end();
    }

    private static void makeCall(String line) {
        if (line.equals(NEW_OBJECT)) {
            ledger = new Migrationledger();
            return;
        }
        Matcher parts = CALL.matcher(line);
        boolean readable = ledger != null && parts.matches();
        Expect.answer("README.md: can be read: " + line, true, () -> readable);
        if (readable) {
            String name = parts.group(1);
            used.add(name);
            Expect.answer("README.md: " + line, parts.group(3), () -> answerOf(name, numbers(parts.group(2))));
        }
    }

    private static Object[] numbers(String text) {
        if (text.isEmpty()) {
            return new Object[0];
        }
        String[] texts = text.split(", ");
        Object[] numbers = new Object[texts.length];
        for (int i = 0; i < texts.length; i++) {
            numbers[i] = Integer.valueOf(texts[i]);
        }
        return numbers;
    }

    private static String answerOf(String name, Object[] numbers) {
        for (Method method : Migrationledger.class.getMethods()) {
            if (method.getName().equals(name) && method.getParameterCount() == numbers.length) {
                return answerOf(method, numbers);
            }
        }
        return "no such method";
    }

    private static String answerOf(Method method, Object[] numbers) {
        try {
            Object answer = method.invoke(ledger, numbers);
            return method.getReturnType() == void.class ? "no answer" : String.valueOf(answer);
        } catch (InvocationTargetException e) {
            return "throws " + e.getCause().getClass().getSimpleName();
        } catch (IllegalAccessException e) {
            return "not public";
        }
    }

    private static Set<String> methodsOfTheFace() {
        Set<String> names = new TreeSet<>();
        for (Method method : Migrationledger.class.getDeclaredMethods()) {
            if (Modifier.isPublic(method.getModifiers())) {
                names.add(method.getName());
            }
        }
        return names;
    }
}
