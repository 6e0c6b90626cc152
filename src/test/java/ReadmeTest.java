import java.io.IOException;
import java.lang.reflect.Method;
import java.nio.file.Files;
import java.nio.file.Path;
import java.util.Arrays;
import java.util.regex.Matcher;
import java.util.regex.Pattern;

/** The calls of README.md's program answer the number that stands behind them. It runs at the checkout's root. */
public final class ReadmeTest {
    private static final Pattern CALL = Pattern.compile("\\s+road\\.(\\w+)\\((.*)\\); +// (-?\\d+)\\b.*");
    private static final Pattern TEXT = Pattern.compile("\\s+\"(.*)\"\\.chars\\(\\)\\.forEach\\(road::append\\);.*");

    public static void main(String[] args) throws IOException, ReflectiveOperationException {
        Check check = new Check("ReadmeTest");
        PostRoad road = new PostRoad();
        for (String line : Files.readAllLines(Path.of("README.md"))) {
            Matcher call = CALL.matcher(line);
            Matcher text = TEXT.matcher(line);
            if (call.matches()) {
                check.due(line.trim(), answer(road, call.group(1), call.group(2)), Long.parseLong(call.group(3)));
            } else if (text.matches()) {
                text.group(1).chars().forEach(road::append);
            } else {
                check.holds("its answer is told: " + line.trim(), !line.trim().startsWith("road."));
            }
        }
        check.end();
    }

    private static long answer(PostRoad road, String name, String list) throws ReflectiveOperationException {
        Object[] values = Arrays.stream(list.isEmpty() ? new String[0] : list.split(", ")).map(ReadmeTest::value).toArray();
        Method method = Arrays.stream(PostRoad.class.getMethods()).filter(m -> m.getName().equals(name)).findFirst().orElseThrow();
        return ((Number) method.invoke(road, values)).longValue();
    }

    private static Object value(String word) {
        return word.equals("true") || word.equals("false") ? (Object) Boolean.valueOf(word) : Integer.valueOf(word);
    }
}
