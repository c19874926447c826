import java.io.IOException;
import java.nio.file.DirectoryStream;
import java.nio.file.Files;
import java.nio.file.Path;
import java.util.ArrayList;
import java.util.List;
import java.util.Map;
import java.util.TreeMap;
import java.util.regex.Matcher;
import java.util.regex.Pattern;

/** Each sentence of the document is quoted by a check of some test, and what the tests quote stands in the document. */
public final class DocumentTest {
    private static final Path DOCUMENT = Path.of("..", "shared", "DOC.md");
    private static final Path TESTS = Path.of("tests");
    private static final int TERMS = 0;
    private static final int PROMISES = 54;
    private static final Pattern QUOTE = Pattern.compile(
        "check\\.sentence\\((\\d+),\\s*(\"(?:[^\"\\\\]|\\\\.)*\"(?:\\s*\\+\\s*\"(?:[^\"\\\\]|\\\\.)*\")*)\\)");
    private static final Pattern TEXT = Pattern.compile("\"((?:[^\"\\\\]|\\\\.)*)\"");
    private static final Pattern PROMISE = Pattern.compile("(?s)\n## Promise (\\d+): [^\n]*\n(.*?)(?=\n## )");
    private static final Check check = new Check("DocumentTest");

    /** Without marks, headings and broken lines. */
    private static String plain(String text) {
        return text.replaceAll("(?m)^```.*$", "").replaceAll("(?m)^#.*$", "").replaceAll("(?m)^\\d\\. .*$", "")
            .replace("`", "").replaceAll("\\s+", " ").trim();
    }

    private static String between(String text, String start, String end) {
        int from = text.indexOf(start);
        int to = text.indexOf(end);
        check.same("the document has " + start.trim() + " ahead of " + end.trim(), from >= 0 && to > from, true);
        return from >= 0 && to > from ? text.substring(from, to) : "";
    }

    private static void addSentences(List<String> sentences, String text) {
        for (String sentence : plain(text).split("(?<=[.;])\\s+")) {
            if (!sentence.isEmpty()) {
                sentences.add(sentence);
            }
        }
    }

    /** The sentences of each promise, of its parameters, answers and exceptions; those of the terms with the number 0. */
    private static Map<Integer, List<String>> sentencesOf(String document) {
        Map<Integer, List<String>> all = new TreeMap<>();
        List<String> terms = new ArrayList<>();
        addSentences(terms, between(document, "\nAn object is used", "\n## The public face"));
        addSentences(terms, between(document, "\n## Terms", "\nAhead of the calls"));
        all.put(TERMS, terms);
        Matcher promise = PROMISE.matcher(document);
        while (promise.find()) {
            List<String> sentences = new ArrayList<>();
            // What the signature shows is looked at by FaceTest.
            String text = promise.group(2).replaceFirst("(?s)^\\s*`[^`]*`:", "");
            for (String part : text.split("\n(?=- |\n)")) {
                addSentences(sentences, part.replaceFirst("^\n*- ", ""));
            }
            all.put(Integer.valueOf(promise.group(1)), sentences);
        }
        return all;
    }

    private static Map<Integer, List<String>> quotes() throws IOException {
        Map<Integer, List<String>> quotes = new TreeMap<>();
        try (DirectoryStream<Path> files = Files.newDirectoryStream(TESTS, "*Test.java")) {
            for (Path file : files) {
                Matcher quote = QUOTE.matcher(Files.readString(file));
                while (quote.find()) {
                    StringBuilder words = new StringBuilder();
                    Matcher text = TEXT.matcher(quote.group(2));
                    while (text.find()) {
                        words.append(text.group(1).replace("\\\"", "\""));
                    }
                    quotes.computeIfAbsent(Integer.valueOf(quote.group(1)), n -> new ArrayList<>())
                        .add(words.toString());
                }
            }
        }
        return quotes;
    }

    private static boolean isQuoted(String sentence, List<String> quotes) {
        for (String quote : quotes) {
            if (sentence.contains(quote) || quote.contains(sentence)) {
                return true;
            }
        }
        return false;
    }

    public static void main(String[] arguments) throws IOException {
        String document = Files.readString(DOCUMENT);
        Map<Integer, List<String>> sentences = sentencesOf(document);
        Map<Integer, List<String>> quotes = quotes();
        check.same("the promises and the terms", sentences.size(), PROMISES + 1);
        // A sentence of the terms may be looked at where a promise is.
        List<String> allQuotes = new ArrayList<>();
        for (List<String> some : quotes.values()) {
            allQuotes.addAll(some);
        }
        quotes.put(TERMS, allQuotes);
        for (int number : sentences.keySet()) {
            check.promise(number);
            for (String sentence : sentences.get(number)) {
                check.same("\"" + sentence + "\" is quoted by a test",
                    isQuoted(sentence, quotes.getOrDefault(number, List.of())), true);
            }
        }
        String all = plain(document.substring(document.indexOf('\n')));
        check.promise(TERMS);
        for (String quote : allQuotes) {
            check.same("\"" + quote + "\" stands in the document", all.contains(quote), true);
        }
        check.end();
    }
}
