import java.io.IOException;
import java.lang.reflect.Method;
import java.nio.file.Files;
import java.nio.file.Path;
import java.util.List;
import java.util.regex.Matcher;
import java.util.regex.Pattern;
import java.util.stream.Collectors;
import java.util.stream.Stream;

/**
 * src/test/SENTENCES.md names a test for each sentence, each test that it names is there and is run, and README.md names
 * every test. Run from the project's folder.
 */
public final class SentencesTest {
    private static final Path SOURCES = Path.of("src/test/java");
    private static final Pattern TEST = Pattern.compile("`(\\w+Test)(?:\\.(\\w+))?`");

    public static void main(String[] args) throws IOException {
        String map = Files.readString(Path.of("src/test/SENTENCES.md"));
        Matcher named = TEST.matcher(map);
        while (named.find()) {
            isThere(named.group(1), named.group(2));
        }
        for (String line : map.lines().filter(l -> l.startsWith("| ") && !l.startsWith("| sentence")).toList()) {
            String tests = line.substring(line.indexOf(" | ") + 3);
            boolean told = TEST.matcher(tests).find() || tests.equals("all of them |") || tests.startsWith("none: ");
            Checks.same("a test for: " + line, told, true);
        }
        String readme = Files.readString(Path.of("README.md"));
        for (String test : tests()) {
            Checks.same("README.md names " + test, readme.contains("`" + test + "`"), true);
        }
        Checks.end("SentencesTest");
    }

    private static List<String> tests() throws IOException {
        try (Stream<Path> files = Files.list(SOURCES)) {
            return files.map(file -> file.getFileName().toString()).filter(name -> name.endsWith("Test.java"))
                    .map(name -> name.replace(".java", "")).sorted().collect(Collectors.toList());
        }
    }

    /** A method that is only written, but not called, would test nothing. */
    private static void isThere(String test, String method) throws IOException {
        Path source = SOURCES.resolve(test + ".java");
        Checks.same(test + " is there", Files.exists(source), true);
        if (method == null || !Files.exists(source)) {
            return;
        }
        Checks.same(test + "." + method + " is there", has(test, method), true);
        int written = (int) Pattern.compile("\\b" + method + "\\(").matcher(Files.readString(source)).results().count();
        Checks.same(test + "." + method + " is called", written >= 2, true);
    }

    private static boolean has(String test, String method) {
        try {
            for (Method m : Class.forName(test).getDeclaredMethods()) {
                if (m.getName().equals(method)) {
                    return true;
                }
            }
            return false;
        } catch (ClassNotFoundException e) {
            return false;
        }
    }
}
