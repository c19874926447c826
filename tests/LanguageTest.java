import java.io.IOException;
import java.nio.file.Files;
import java.nio.file.Path;
import java.util.regex.Matcher;
import java.util.regex.Pattern;

/** What of ../shared/LANGUAGE.md can be seen in the text of the program. */
public final class LanguageTest {
    private static final Path SOURCE = Path.of("src", "main", "java", "Ballothall.java");
    private static final String[] FORBIDDEN = {
        "->", "::", "\\bsynchronized\\b", "\\bassert\\b", "\\btry\\b", "\\bcatch\\b", "\\bfinally\\b", "\\bvar\\b",
        "\\bprotected\\b", "\\bvolatile\\b", "\\bpackage\\b", "\\bnative\\b", "\\binterface\\b", "Exact\\(",
        "\\bstatic\\s*\\{", "\\bgetClass\\b", "\\bhashCode\\b", "\\btoString\\b", "\\bequals\\b", "\\binstanceof\\b",
        "while \\(true\\)", "for \\(;;", "for \\([^;]*;\\s*;", "\\bRandom\\b", "\\bThread\\b",
        "System\\.(?!arraycopy\\()", "Math\\.(?!(max|min|abs|floorDiv|floorMod)\\()",
        "Integer\\.(?!bitCount\\()", "Long\\.", "Arrays\\.(?!fill\\([^,]*, [^,]*\\))",
        "throw new (?!(IllegalState|IllegalArgument|IndexOutOfBounds|NoSuchElement)Exception\\(\"[^\"]*\"\\);)"
    };

    private static String withoutComments(String source) {
        return source.replaceAll("(?s)/\\*.*?\\*/", "").replaceAll("//[^\n]*", "");
    }

    public static void main(String[] arguments) throws IOException {
        Check check = new Check("LanguageTest");
        String source = Files.readString(SOURCE);
        String code = withoutComments(source);
        for (String forbidden : FORBIDDEN) {
            Matcher found = Pattern.compile(forbidden).matcher(code);
            check.same("the code has " + forbidden, found.find() ? found.group() : "none", "none");
        }
        Matcher imports = Pattern.compile("import ([^;]*);").matcher(code);
        while (imports.find()) {
            check.same("import", imports.group(1).matches("java\\.util\\.(Arrays|NoSuchElementException)"), true);
        }
        check.same("signs from 10 to 126", source.chars().allMatch(c -> c == '\n' || c >= ' ' && c < 127), true);
        int start = 0;
        String[] lines = source.split("\n");
        for (int i = 0; i < lines.length; i++) {
            check.same("the width of line " + (i + 1), lines[i].length() <= 120, true);
            if (lines[i].matches("( {4}| {8})[^ }].*\\{")) {
                start = i;
            } else if (lines[i].matches(" {4}( {4})?\\}") && !lines[start].contains(" class ")) {
                check.same("the length of the method at line " + (start + 1), i - start < 60, true);
            }
        }
        check.end();
    }
}
