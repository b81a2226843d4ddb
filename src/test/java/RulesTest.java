import java.nio.file.Files;
import java.nio.file.Path;
import java.util.regex.Matcher;
import java.util.regex.Pattern;

/** Rules of LANGUAGE.md that can be seen in the source's text; it takes the source's path. */
public final class RulesTest {
    private static final String[] NEVER = {"->", "::", "\\bsynchronized\\b", "\\bfinally\\b", "\\bassert\\b",
        "\\bcatch\\b", "\\btry\\b", "\\bpackage\\b", "Exact\\b", "\\bobject\\.equals\\b", "\\bdouble\\b", "\\bfloat\\b",
        "\\bRandom\\b", "\\bcurrentTimeMillis\\b", "\\bnanoTime\\b", "\\bThread\\b", "\\bgetClass\\b", "\\bvar\\b",
        "\\bprotected\\b", "\\[\\]\\[\\]\\[\\]", "\\bMath\\.random\\b", "\\bObjects?\\b", "while \\(true\\)"};
    private static final String[] IMPORTS = {"java.util.ArrayList", "java.util.NoSuchElementException"};

    public static void main(String[] args) throws Exception {
        if (args.length == 0) {
            Check.fail("the source's path lacks");
            Check.end();
        }
        String source = Files.readString(Path.of(args[0]));
        String code = source.replaceAll("(?s)/\\*.*?\\*/", "").replaceAll("\"[^\"\n]*\"", "\"\"");
        for (String never : NEVER) {
            Matcher found = Pattern.compile(never).matcher(code);
            Check.due("never: " + never, found.find() ? 1 : 0, 0);
        }
        imports(code);
        exceptions(code);
        methodLengths(code);
        Check.end();
    }

    private static void imports(String code) {
        Matcher found = Pattern.compile("import ([^;]+);").matcher(code);
        while (found.find()) {
            boolean known = false;
            for (String one : IMPORTS) {
                known |= one.equals(found.group(1));
            }
            Check.due("import " + found.group(1), known ? 1 : 0, 1);
        }
    }

    private static void exceptions(String code) {
        Matcher found = Pattern.compile("throw ([^;]*);").matcher(code);
        while (found.find()) {
            boolean good = found.group(1).matches("new (IllegalStateException|IllegalArgumentException"
                    + "|IndexOutOfBoundsException|NoSuchElementException)\\((\"\")?\\)");
            Check.due("throw " + found.group(1), good ? 1 : 0, 1);
        }
    }

    private static void methodLengths(String code) {
        int began = -1;
        String[] lines = code.split("\n");
        for (int k = 0; k < lines.length; k++) {
            boolean opens = lines[k].matches(" {4}( {4})?\\S.*\\{") || lines[k].matches(" {12}throws .*\\{");
            if (opens && !lines[k].contains(" class ")) {
                began = k;
            }
            if (lines[k].matches(" {4}( {4})?\\}") && began >= 0) {
                Check.due("length of what begins with " + lines[began], k - began <= 60 ? 1 : 0, 1);
                began = -1;
            }
        }
    }
}
