import java.io.IOException;
import java.lang.reflect.InvocationTargetException;
import java.lang.reflect.Method;
import java.lang.reflect.Modifier;
import java.nio.file.Files;
import java.nio.file.Path;
import java.util.ArrayList;
import java.util.List;
import java.util.Set;
import java.util.TreeSet;
import java.util.regex.Matcher;
import java.util.regex.Pattern;

/**
 * README.md: each call of the face has a heading with its whole signature and an example below it that shows an answer
 * and each exception, and each line of each example answers what stands behind it. Run from the project's folder.
 */
public final class ReadmeTest {
    private static final Pattern BEGIN = Pattern.compile("KeyToken token = new KeyToken\\(\\);");
    private static final Pattern LINE = Pattern.compile("token\\.(\\w+)\\((.*?)\\);(?:\\s*//\\s*([^:]*).*)?");
    private static final int MOST_CALLS = 512;

    /** What the examples below a heading have shown: a name, or a name and what it throws. */
    private static final Set<String> shown = new TreeSet<>();

    public static void main(String[] args) throws IOException {
        List<String> text = Files.readAllLines(Path.of("README.md"));
        List<String> headings = new ArrayList<>();
        KeyToken token = null;
        boolean inside = false;
        int calls = 0;
        for (String line : text) {
            if (line.startsWith("### ")) {
                headings.add(line);
            } else if (line.startsWith("```")) {
                inside = line.equals("```java");
                token = null;
                calls = 0;
            } else if (inside && BEGIN.matcher(line).matches()) {
                token = new KeyToken();
            } else if (inside && !line.isBlank() && !line.startsWith("//")) {
                calls++;
                Checks.same("at most 512 calls", calls <= MOST_CALLS, true);
                runLine(token, line, headings.isEmpty() ? "" : headings.get(headings.size() - 1));
            }
        }
        for (Method m : KeyToken.class.getDeclaredMethods()) {
            if (Modifier.isPublic(m.getModifiers())) {
                isTold(m, headings);
            }
        }
        Checks.same("the constructor", headings.contains("### `KeyToken()`"), true);
        for (String command : new String[] {".ci/run", "javac -d build src/main/java/KeyToken.java src/test/java/*.java"}) {
            Checks.same("how to run the tests: " + command, text.contains("    " + command), true);
        }
        Checks.end("ReadmeTest");
    }

    private static void runLine(KeyToken token, String line, String heading) {
        Matcher parts = LINE.matcher(line);
        Checks.same("a call on an object: " + line, token != null && parts.matches(), true);
        if (token == null || !parts.matches()) {
            return;
        }
        String due = parts.group(3) == null ? "" : parts.group(3).strip();
        Method method = methodOf(parts.group(1));
        String got = outcome(token, method, parts.group(2));
        boolean answers = method.getReturnType() != void.class;
        boolean isDue = due.startsWith("throws ") ? got.equals(due)
                : !answers ? got.isEmpty() : !due.isEmpty() && got.equals(plain(due));
        Checks.same(line + " answered " + got + ":", isDue, true);
        if (heading.contains(" " + method.getName() + "(")) {
            shown.add(method.getName() + (due.startsWith("throws ") ? " " + due : ""));
        }
    }

    private static Method methodOf(String name) {
        for (Method m : KeyToken.class.getDeclaredMethods()) {
            if (Modifier.isPublic(m.getModifiers()) && m.getName().equals(name)) {
                return m;
            }
        }
        throw new AssertionError("no call " + name);
    }

    private static String outcome(KeyToken token, Method method, String arguments) {
        String[] texts = arguments.isEmpty() ? new String[0] : arguments.split(", ");
        Object[] values = new Object[texts.length];
        for (int i = 0; i < texts.length; i++) {
            Class<?> type = method.getParameterTypes()[i];
            long number = type == boolean.class ? 0 : numberOf(texts[i]);
            values[i] = type == boolean.class ? Boolean.valueOf(texts[i]) : type == int.class ? (Object) (int) number : number;
        }
        try {
            Object answer = method.invoke(token, values);
            return answer == null ? "" : answer.toString();
        } catch (InvocationTargetException e) {
            return "throws " + e.getCause().getClass().getSimpleName();
        } catch (IllegalAccessException e) {
            throw new AssertionError(e);
        }
    }

    private static String plain(String due) {
        return due.equals("true") || due.equals("false") ? due : Long.toString(numberOf(due));
    }

    private static long numberOf(String text) {
        String digits = text.replace("L", "");
        return digits.startsWith("0x") ? Long.parseUnsignedLong(digits.substring(2), 16) : Long.parseLong(digits);
    }

    private static void isTold(Method method, List<String> headings) {
        String name = method.getName();
        int count = method.getParameterCount();
        StringBuilder raised = new StringBuilder();
        for (Class<?> type : method.getExceptionTypes()) {
            raised.append(raised.length() == 0 ? " throws " : ", ").append(type.getSimpleName());
            String due = name + " throws " + type.getSimpleName();
            Checks.same("an example of " + due, shown.contains(due), true);
        }
        Checks.same("an example of " + name, shown.contains(name), true);
        String pattern = "### `" + method.getReturnType() + " " + name + "\\(([^(),]+(, [^(),]+){" + Math.max(0, count - 1)
                + "})" + (count == 0 ? "{0}" : "") + "\\)" + raised + "`";
        int told = 0;
        for (String heading : headings) {
            told += heading.matches(pattern) ? 1 : 0;
        }
        Checks.same("a heading of " + name, told, 1);
    }
}
