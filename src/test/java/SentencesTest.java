import java.io.IOException;
import java.nio.file.DirectoryStream;
import java.nio.file.Files;
import java.nio.file.Path;
import java.util.LinkedHashMap;
import java.util.Map;
import java.util.regex.Matcher;
import java.util.regex.Pattern;

/**
 * Each word of the document's terms and promises stands in a sentence that has a test of its own, and no test quotes
 * what the document does not say. It runs at the checkout's root.
 */
public final class SentencesTest {
    private static final Path DOCUMENT = Path.of("../shared/DOC.md");
    private static final Path TESTS = Path.of("src/test/java");
    private static final Pattern TERM = Pattern.compile("^(Road|Teams|Letters|An hour|Beds|Text|Undo|Exceptions)\\. (.*)");
    private static final Pattern STEP = Pattern.compile("^(\\d)\\. (.*)");
    private static final Pattern PART = Pattern.compile("new Check\\(\"([^\"]*)\"\\)");
    private static final Pattern QUOTE = Pattern.compile("\\.sentence\\(\"([^\"]*)\"(?:\\s*\\+\\s*\"([^\"]*)\")?");

    /** The document's words by their part, less those for which a test was found. */
    private final Map<String, String> untested = new LinkedHashMap<>();
    private final Check check = new Check("Sentences");

    public static void main(String[] args) throws IOException {
        SentencesTest all = new SentencesTest();
        all.readDocument();
        try (DirectoryStream<Path> files = Files.newDirectoryStream(TESTS, "*Test.java")) {
            for (Path file : files) {
                all.readTest(Files.readString(file));
            }
        }
        all.untested.forEach(all::tellUntested);
        all.check.end();
    }

    private void readDocument() throws IOException {
        String part = "";
        for (String line : Files.readAllLines(DOCUMENT)) {
            Matcher term = TERM.matcher(line);
            if (line.startsWith("## ")) {
                part = line.startsWith("## Promise ") ? line.substring(3, line.indexOf(':')) : "";
            } else if (line.startsWith("The constants:")) {
                add("The constants", line.substring(14));
            } else if (line.startsWith("Ahead of the calls")) {
                continue;
            } else if (term.matches()) {
                part = term.group(1);
                add(part, term.group(2));
            } else if (!part.isEmpty()) {
                addLine(part, line);
            }
        }
    }

    private void addLine(String part, String line) {
        Matcher step = STEP.matcher(line);
        if (part.equals("An hour") && step.matches()) {
            add(part + ", " + step.group(1), step.group(2));
        } else {
            add(part, line.replaceFirst("^`[^`]*\\)[^`]*`: ", ""));
        }
    }

    private void add(String part, String words) {
        untested.merge(part, words.replaceAll("[`\"]", ""), (before, more) -> before + "\n" + more);
    }

    private void readTest(String source) {
        Matcher part = PART.matcher(source);
        Matcher quote = QUOTE.matcher(source);
        while (part.find(0) && quote.find()) {
            String words = quote.group(1) + (quote.group(2) == null ? "" : quote.group(2));
            String left = untested.getOrDefault(part.group(1), "");
            int at = left.indexOf(words);
            check.holds(part.group(1) + " says: " + words, at >= 0);
            if (at >= 0) {
                untested.put(part.group(1), left.substring(0, at) + "|" + left.substring(at + words.length()));
            }
        }
    }

    private void tellUntested(String part, String left) {
        for (String line : left.split("\n")) {
            String words = line.replaceAll("\\b(and|or|it)\\b", "").replaceAll("[^A-Za-z0-9]", "");
            check.holds("all of " + part + " has a test: " + line, words.isEmpty());
        }
    }
}
