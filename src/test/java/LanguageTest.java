import java.nio.file.Files;
import java.nio.file.Path;
import java.util.regex.Matcher;
import java.util.regex.Pattern;

/** Words that LANGUAGE.md rules out must not stand in the class; it is run from the root of the project. */
public final class LanguageTest {
    private static final String[] RULED_OUT = {
        "\\bthrow\\b", "\\bthrows\\b", "\\btry\\b", "\\bcatch\\b", "\\bfinally\\b", "\\bsynchronized\\b", "\\bassert\\b",
        "\\bimport\\b", "\\bpackage\\b", "->", "::", "Exact\\b", "\\bvar\\b", "\\bnative\\b", "\\bvolatile\\b", "\\btransient\\b",
        "\\bObject\\b", "\\bThread\\b", "\\bSystem\\.(?!arraycopy)", "\\bdouble\\b", "\\bfloat\\b", "\\.hashCode\\b", "\\.toString\\b",
        "\"", "\\bstatic\\s*\\{", "\\bprotected\\b",
    };

    public static void main(String[] args) throws Exception {
        Checks.part("language");
        String source = Files.readString(Path.of("src/main/java/BellRope.java"));
        String code = source.replaceAll("(?s)/\\*.*?\\*/", " ").replaceAll("//[^\n]*", " ");
        for (String word : RULED_OUT) {
            Matcher found = Pattern.compile(word).matcher(code);
            Checks.due(!found.find(), "the class uses " + word);
        }
        rowsAreLookedAt(code);
        methodsAreShort(source);
        madeInConstructorsAlone(code);
        Checks.end();
    }

    /** Numbers of a row are used in Rows alone, where the index is looked at. */
    private static void rowsAreLookedAt(String code) {
        int from = code.indexOf("private static final class Rows");
        int to = code.indexOf("private static final class Inn");
        Checks.due(from >= 0 && to > from, "Rows does not stand ahead of Inn");
        if (from < 0 || to <= from) {
            return;
        }
        String others = code.substring(0, from) + code.substring(to);
        Matcher index = Pattern.compile("\\w\\[(?!\\])[^\\]]*\\]").matcher(others);
        while (index.find()) {
            String found = index.group();
            boolean made = others.substring(0, index.start() + 1).matches("(?s).*new \\w+");
            int line = others.substring(0, index.start()).lastIndexOf('\n');
            String whole = others.substring(line + 1, others.indexOf('\n', index.start()));
            // a loop over evenings looks at i itself
            boolean looked = whole.contains("evenings[") && (found.equals("s[i]") || found.equals("s[i - 1]"));
            Checks.due(made || looked, "an index is used beside Rows: " + found);
        }
    }

    private static void methodsAreShort(String source) {
        String[] lines = source.split("\n");
        int start = 0;
        for (int i = 0; i < lines.length; i++) {
            if (lines[i].matches(" {4}( {4})?\\w.*\\) \\{")) {
                start = i;
            }
            if (lines[i].matches(" {4}( {4})?\\}")) {
                Checks.due(i - start < 60 || !lines[start].contains("("), "a method is long: " + lines[start]);
            }
        }
    }

    /** All calls of a run live in one room: only fields and constructors make objects. */
    private static void madeInConstructorsAlone(String code) {
        Matcher made = Pattern.compile("(?m)^(.*)\\bnew\\b.*$").matcher(code);
        while (made.find()) {
            String line = made.group().trim();
            boolean field = line.startsWith("private ") || line.startsWith("final ");
            Checks.due(field || line.equals("evenings[i] = new Evening();"), "a call makes something: " + line);
        }
    }
}
