import java.io.IOException;
import java.nio.file.Files;
import java.nio.file.Path;
import java.util.ArrayList;
import java.util.HashMap;
import java.util.HashSet;
import java.util.List;
import java.util.Map;
import java.util.Set;
import java.util.TreeMap;
import java.util.regex.Matcher;
import java.util.regex.Pattern;

/** What of ../shared/LANGUAGE.md can be seen in the text of the program. */
public final class LanguageTest {
    private static final Path SOURCE = Path.of("src", "main", "java", "Ballothall.java");
    private static final int MOST_LINES = 60;
    private static final int MOST_DEEP = 8;
    private static final String[] FORBIDDEN = {
        "->", "::", "\\bsynchronized\\b", "\\bassert\\b", "\\btry\\b", "\\bcatch\\b", "\\bfinally\\b", "\\bvar\\b",
        "\\bprotected\\b", "\\bvolatile\\b", "\\bpackage\\b", "\\bnative\\b", "\\binterface\\b", "Exact\\(",
        "\\bstatic\\s*\\{", "\\bgetClass\\b", "\\bhashCode\\b", "\\btoString\\b", "\\bequals\\b", "\\binstanceof\\b",
        "while \\(true\\)", "for \\(;;", "for \\([^;]*;\\s*;", "\\bRandom\\b", "\\bThread\\b", "\"\\s*\\+", "\\+\\s*\"",
        "System\\.(?!arraycopy\\()", "Math\\.(?!(max|min|abs|floorDiv|floorMod)\\()",
        "Integer\\.(?!bitCount\\()", "Long\\.", "Arrays\\.(?!fill\\([^,]*, [^,]*\\))", "\\)\\s*\\{[^}]*\\}\\s*;",
        "static (?!final |boolean |void )", "import (?!java\\.util\\.(Arrays|NoSuchElementException);)",
        "throw new (?!(IllegalState|IllegalArgument|IndexOutOfBounds|NoSuchElement)Exception\\(\"[^\"]*\"\\);)"
    };
    private static final Pattern CLASS = Pattern.compile(" {4}private static final class (\\w+) \\{");
    private static final Pattern HEAD = Pattern.compile("( {4}| {8})(?:public |private )(?:static )?(?:[\\w\\[\\]]+ )?(\\w+)\\(.*");
    private static final Pattern CALL = Pattern.compile("(?<!new )\\b(\\w+)\\(");
    private static final Check check = new Check("LanguageTest");

    /** The lines of a method or of a constructor, and where they stand. */
    private static final class Body {
        private final String owner;
        private final String name;
        private final StringBuilder text = new StringBuilder();
        private int lines;

        private Body(String itsOwner, String itsName) {
            owner = itsOwner;
            name = itsName;
        }
    }

    private static String withoutComments(String source) {
        return source.replaceAll("(?s)/\\*.*?\\*/", "").replaceAll("//[^\n]*", "");
    }

    private static List<Body> bodiesOf(String code) {
        List<Body> bodies = new ArrayList<>();
        String owner = "Ballothall";
        Body open = null;
        String end = "";
        for (String line : code.split("\n")) {
            Matcher begun = CLASS.matcher(line);
            Matcher head = HEAD.matcher(line);
            if (begun.matches()) {
                owner = begun.group(1);
            } else if (open == null && head.matches() && !line.contains(" = ")) {
                open = new Body(head.group(1).length() == 4 ? "Ballothall" : owner, head.group(2));
                end = head.group(1) + "}";
                bodies.add(open);
            }
            if (open != null) {
                open.text.append(open.lines == 0 ? line.replaceFirst("\\w+\\(", "(") : line).append('\n');
                open.lines++;
                open = line.equals(end) ? null : open;
            }
        }
        return bodies;
    }

    /** How many calls of the program's own methods stand open at once; a method that calls itself has no such number. */
    private static int depthOf(Body body, Map<String, List<Body>> named, Map<Body, Integer> known, Set<Body> open) {
        if (known.containsKey(body)) {
            return known.get(body);
        }
        check.same(body.owner + "." + body.name + "() calls itself", open.add(body), true);
        int deepest = 0;
        Matcher call = CALL.matcher(body.text);
        while (call.find()) {
            List<Body> called = named.getOrDefault(call.group(1), List.of());
            for (Body other : called) {
                // Of several with one name the one of another class is called by a field's name, and all are looked at.
                if (!open.contains(other) || called.size() == 1) {
                    deepest = Math.max(deepest, depthOf(other, named, known, open));
                }
            }
        }
        open.remove(body);
        known.put(body, deepest + 1);
        return deepest + 1;
    }

    private static void lookAtMethods(String code) {
        Map<String, List<Body>> named = new TreeMap<>();
        List<Body> bodies = bodiesOf(code);
        for (Body body : bodies) {
            named.computeIfAbsent(body.name, n -> new ArrayList<>()).add(body);
        }
        check.same("methods enough to believe it", bodies.size() > 100, true);
        Map<Body, Integer> known = new HashMap<>();
        for (Body body : bodies) {
            String what = body.owner + "." + body.name + "()";
            check.same("the lines of " + what, body.lines <= MOST_LINES, true);
            check.same("the depth of " + what, depthOf(body, named, known, new HashSet<>()) <= MOST_DEEP, true);
            check.same("a throw in the constructor " + what, body.name.equals(body.owner) && body.text.indexOf("throw") >= 0,
                false);
        }
    }

    public static void main(String[] arguments) throws IOException {
        String source = Files.readString(SOURCE);
        String code = withoutComments(source);
        for (String forbidden : FORBIDDEN) {
            Matcher found = Pattern.compile(forbidden).matcher(code);
            check.same("the code has " + forbidden, found.find() ? found.group() : "none", "none");
        }
        check.same("signs from 10 to 126", source.chars().allMatch(c -> c == '\n' || c >= ' ' && c < 127), true);
        String[] lines = source.split("\n");
        for (int i = 0; i < lines.length; i++) {
            check.same("the width of line " + (i + 1), lines[i].length() <= 120, true);
        }
        lookAtMethods(code);
        check.end();
    }
}
