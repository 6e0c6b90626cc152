import java.io.IOException;
import java.nio.file.Files;
import java.nio.file.Path;
import java.util.Arrays;
import java.util.List;
import java.util.Set;
import java.util.TreeSet;
import java.util.regex.Matcher;
import java.util.regex.Pattern;

/** Those rules of LANGUAGE.md that the words of the source tell. It runs at the checkout's root. */
public final class LanguageTest {
    private static final List<String> FORBIDDEN = List.of("->", "::", "package", "synchronized", "assert", "finally",
        "native", "volatile", "transient", "strictfp", "hashCode", "toString\\(\\) \\{", "getClass", "printStackTrace",
        "getMessage", "Exact\\(", "rethrow", "Thread", "Random", "System\\.(?!arraycopy)");
    /** What rule 4 and rule 6 list; other capital words are the file's own classes and constants. */
    private static final Set<String> LIBRARY = Set.of("String", "StringBuilder", "Integer", "Long", "Math", "ArrayList",
        "List", "Iterator", "Iterable", "Comparable", "System", "Arrays", "Override", "IndexOutOfBoundsException",
        "IllegalArgumentException", "IllegalStateException", "ArithmeticException", "UnsupportedOperationException",
        "NoSuchElementException", "RuntimeException");

    public static void main(String[] args) throws IOException {
        Check check = new Check("LanguageTest");
        String source = Files.readString(Path.of("src/main/java/PostRoad.java"));
        String code = source.replaceAll("(?s)/\\*.*?\\*/", "").replaceAll("//[^\n]*", "").replaceAll("\"[^\"\n]*\"", "\"\"");
        for (String word : FORBIDDEN) {
            String bounded = Character.isLetter(word.charAt(0)) ? "\\b" + word : word;
            check.holds("rules 2, 4, 6 and 13: no " + word, count(code, bounded) == 0);
        }
        Set<String> unknown = words(code, "\\b([A-Z][a-z]\\w*)");
        unknown.removeAll(LIBRARY);
        unknown.removeAll(words(code, "\\b(?:class|enum|record|interface) (\\w+)"));
        check.holds("rule 4: nothing but the library's list: " + unknown, unknown.isEmpty());
        check.holds("rule 4: imports", count(code, "\\bimport (?!java\\.util\\.)") == 0);
        check.holds("rule 5: static fields are final", count(code, "\\bstatic (?!final )[\\w\\[\\]<>]+ \\w+ *[=;]") == 0);
        check.holds("rule 6: throw new E(text)", count(code, "\\bthrow\\b") == count(code, "throw new \\w+Exception\\((\"\")?\\);"));
        check.holds("rule 9: no loop without a bound", count(code, "while \\(true\\)|for \\([^;]*; *;") == 0);
        check.holds("rule 11: some twelve classes", count(code, "\\b(class|enum|record|interface) \\w") <= 13);
        check.holds("rule 11: at most seven parameters", count(code, "\\((?:[^(),;\"]*\\w+ \\w+,){7}[^()]*\\) *[{t]") == 0);
        lengths(check, code);
        indexes(check, code);
        check.end();
    }

    private static Set<String> words(String code, String pattern) {
        Set<String> found = new TreeSet<>();
        Matcher m = Pattern.compile(pattern).matcher(code);
        while (m.find()) {
            found.add(m.group(1));
        }
        return found;
    }

    private static long count(String code, String pattern) {
        return Pattern.compile(pattern).matcher(code).results().count();
    }

    /** Methods stay under seventy lines: from a line that opens one to the brace at the same depth. */
    private static void lengths(Check check, String code) {
        String[] lines = code.split("\n");
        for (int i = 0; i < lines.length; i++) {
            Matcher m = Pattern.compile("^( {4}| {8})(?!.*\\b(?:class|enum|record|interface) )\\S.*\\{$").matcher(lines[i]);
            if (m.find() && lines[i].contains("(")) {
                int end = Arrays.asList(lines).subList(i, lines.length).indexOf(m.group(1) + "}");
                check.holds("rule 11: short: " + lines[i].trim(), end >= 0 && end < 70);
            }
        }
    }

    /** Each name in an index stands in a comparison, from the line that opens its method on. */
    private static void indexes(Check check, String code) {
        String method = "";
        for (String line : code.split("\n")) {
            method = line.matches("( {4}| {8})\\S.*\\) ?(throws .*)?\\{") ? line : method + "\n" + line;
            for (String index : words(line, "\\w\\[([^\\]]+)\\]")) {
                Set<String> unseen = words(index, "\\b([a-z]\\w*)");
                unseen.removeAll(words(method, "\\b([a-z]\\w*) (?:[<>]=?|==) "));
                check.holds("rule 7: an index is looked at: " + line.trim(), unseen.isEmpty());
            }
        }
    }
}
