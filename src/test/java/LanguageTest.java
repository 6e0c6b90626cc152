import java.io.IOException;
import java.nio.file.Files;
import java.nio.file.Path;
import java.util.Arrays;
import java.util.List;
import java.util.Set;
import java.util.TreeSet;
import java.util.regex.Matcher;
import java.util.regex.Pattern;

/** Those rules of LANGUAGE.md that the words of the source tell. It runs at the checkout's root. */
public final class LanguageTest {
    private static final List<String> FORBIDDEN = List.of("->", "::", "import", "package", "synchronized", "assert",
        "finally", "try", "catch", "var", "yield", "native", "volatile", "transient", "Exact", "hashCode", "toString",
        "equals", "getClass", "Object", "Float", "Double", "NaN", "Thread", "Random", "sealed", "strictfp", "println");
    private static final Set<String> CAPITAL_WORDS = Set.of("PostRoad", "Road", "Stage", "Inn", "Team", "Letter",
        "History", "RoadText", "Math", "IndexOutOfBoundsException", "IllegalArgumentException",
        "IllegalStateException");

    public static void main(String[] args) throws IOException {
        Check check = new Check("LanguageTest");
        String source = Files.readString(Path.of("src/main/java/PostRoad.java"));
        check.holds("signs 1 to 126 alone", source.chars().allMatch(c -> c == '\n' || c >= ' ' && c < 127));
        String code = source.replaceAll("(?s)/\\*.*?\\*/", "").replaceAll("//[^\n]*", "").replaceAll("\"[^\"\n]*\"", "\"\"");
        for (String word : FORBIDDEN) {
            String bounded = Character.isLetter(word.charAt(0)) ? "\\b" + word + "\\b" : Pattern.quote(word);
            check.holds("rules 2, 3, 4 and 6: no " + word, !Pattern.compile(bounded).matcher(code).find());
        }
        check.holds("rule 4: no library but Math.min and Math.max", capitals(code).equals(new TreeSet<>(CAPITAL_WORDS)));
        check.holds("rule 4: Math", !Pattern.compile("Math\\.(?!min\\(|max\\()").matcher(code).find());
        check.holds("rule 5: static fields are final", !Pattern.compile("static (?!final )[a-zA-Z\\[\\]]+ \\w+ *[=;]").matcher(code).find());
        check.holds("rule 6: throw new E(text)", count(code, "\\bthrow\\b") == count(code, "throw new \\w+Exception\\(\"\"\\);"));
        check.holds("rule 11: at most twelve classes", count(code, "\\bclass\\b") <= 12);
        check.holds("rule 11: at most seven parameters", count(code, "\\((?:[^(),]*,){7}[^()]*\\)") == 0);
        lengths(check, code);
        check.end();
    }

    private static Set<String> capitals(String code) {
        Set<String> found = new TreeSet<>();
        Matcher m = Pattern.compile("\\b[A-Z][a-z]\\w*").matcher(code);
        while (m.find()) {
            found.add(m.group());
        }
        return found;
    }

    private static long count(String code, String pattern) {
        return Pattern.compile(pattern).matcher(code).results().count();
    }

    /** Methods stay under sixty lines: from a line that opens one to the brace at the same depth. */
    private static void lengths(Check check, String code) {
        String[] lines = code.split("\n");
        for (int i = 0; i < lines.length; i++) {
            Matcher m = Pattern.compile("^( {4}| {8})(?!private static final class)\\S.*\\{$").matcher(lines[i]);
            if (m.find() && lines[i].contains("(")) {
                String close = m.group(1) + "}";
                int end = Arrays.asList(lines).subList(i, lines.length).indexOf(close);
                check.holds("rule 11: short: " + lines[i].trim(), end >= 0 && end < 60);
            }
        }
    }
}
