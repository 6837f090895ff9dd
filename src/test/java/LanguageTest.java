import java.io.IOException;
import java.nio.file.Files;
import java.nio.file.Path;
import java.util.List;
import java.util.regex.Matcher;
import java.util.regex.Pattern;

/** Rules of LANGUAGE.md that the text of the class can be searched for; run from the project's folder. */
public final class LanguageTest {
    private static final String[] FORBIDDEN = {"::", "\\)\\s*->", "\\bpackage\\b", "\\bfinally\\b", "\\bsynchronized\\b",
        "\\bassert\\b", "\\bObject\\b", "\\bSystem\\.(?!arraycopy)", "\\bThread\\b", "\\bRandom\\b", "\\bhashCode\\b",
        "\\bgetMessage\\b", "\\w+Exact\\b", "\\bstatic\\s*\\{", "\\bextends\\s+\\w*Exception\\b", "\\[\\s*\\]\\s*\\[\\s*\\]\\s*\\["};
    private static final List<String> IMPORTS = List.of("import java.util.Arrays;", "import java.util.NoSuchElementException;",
            "import java.util.ArrayList;", "import java.util.List;", "import java.util.Iterator;");
    private static final List<String> THROWN = List.of("IllegalStateException", "IllegalArgumentException",
            "IndexOutOfBoundsException", "ArithmeticException", "UnsupportedOperationException", "NoSuchElementException",
            "RuntimeException");
    private static final int SOME_SIXTY_LINES = 70;
    private static final int SOME_TWELVE_CLASSES = 14;

    public static void main(String[] args) throws IOException {
        String text = Files.readString(Path.of("src/main/java/KeyToken.java"));
        String code = text.replaceAll("(?s)/\\*.*?\\*/", "").replaceAll("//[^\n]*", "").replaceAll("\"[^\"\n]*\"", "\"\"");
        for (String forbidden : FORBIDDEN) {
            Checks.same("no " + forbidden, Pattern.compile(forbidden).matcher(code).find(), false);
        }
        Matcher imports = Pattern.compile("(?m)^import .*$").matcher(code);
        while (imports.find()) {
            Checks.same(imports.group(), IMPORTS.contains(imports.group()), true);
        }
        Matcher thrown = Pattern.compile("throw new (\\w+)\\(").matcher(code);
        while (thrown.find()) {
            Checks.same("throws " + thrown.group(1), THROWN.contains(thrown.group(1)), true);
        }
        Checks.same("every throw makes its exception", count(code, "\\bthrow\\b"), count(code, "\\bthrow new \\w+\\("));
        Checks.same("some twelve classes", count(code, "\\b(class|enum|interface|record) \\w+") <= SOME_TWELVE_CLASSES, true);
        methodsAreShort(code);
        Checks.end("LanguageTest");
    }

    private static int count(String code, String pattern) {
        return (int) Pattern.compile(pattern).matcher(code).results().count();
    }

    /** A method begins and ends at a depth of one or two classes. */
    private static void methodsAreShort(String code) {
        Matcher methods = Pattern.compile("(?m)^( {4}| {8})\\w[^;={}]*?\\((.*?)\\)[^;={}]*?\\{\n(.*\n)*?\\1\\}\n").matcher(code);
        while (methods.find()) {
            String name = methods.group().strip().split("\n")[0];
            Checks.same(name + " is short", methods.group().lines().count() <= SOME_SIXTY_LINES, true);
            Checks.same(name + " has few parameters", methods.group(2).split(",").length <= 7, true);
        }
    }
}
