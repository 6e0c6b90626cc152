import java.io.IOException;
import java.lang.reflect.Constructor;
import java.lang.reflect.Field;
import java.lang.reflect.Member;
import java.lang.reflect.Method;
import java.lang.reflect.Modifier;
import java.nio.file.Files;
import java.nio.file.Path;
import java.util.Arrays;
import java.util.Set;
import java.util.TreeSet;
import java.util.regex.Matcher;
import java.util.regex.Pattern;
import java.util.stream.Collectors;
import java.util.stream.Stream;

/** The public face is the document's, and nothing else can be seen. It runs at the checkout's root. */
public final class FaceTest {
    private static final String INDEX = " throws IndexOutOfBoundsException";
    private static final String ARGUMENT = " throws IllegalArgumentException";
    private static final String STATE = " throws IllegalStateException";
    private static final String INDEX_ARGUMENT = INDEX + ", IllegalArgumentException";
    private static final String ALL_THREE = INDEX_ARGUMENT + ", IllegalStateException";

    private static final String[] METHODS = {
        "public int setStage(int, int, int, boolean)" + INDEX_ARGUMENT,
        "public int setInn(int, int, int, boolean)" + INDEX_ARGUMENT,
        "public int addTeam(int, int)" + ALL_THREE,
        "public int give(int, int, boolean)" + ALL_THREE,
        "public int collect()",
        "public int pass(int)" + ARGUMENT + ", IllegalStateException",
        "public int stage(int, int)" + INDEX_ARGUMENT,
        "public int inn(int, int)" + INDEX_ARGUMENT,
        "public int team(int, int)" + INDEX_ARGUMENT,
        "public int letter(int, int)" + INDEX_ARGUMENT,
        "public int value(int)" + ARGUMENT,
        "public int why(int)" + INDEX,
        "public int hoursTo(int)" + INDEX,
        "public int hoursToAll()",
        "public int bestInn()",
        "public int way(int, int)" + INDEX,
        "public int effortHome(int)" + INDEX,
        "public double meanTiredness()",
        "public int append(int)" + ARGUMENT + ", IllegalStateException",
        "public int clearText()",
        "public int parse()",
        "public int undo()" + STATE,
        "public long digest()"};

    public static void main(String[] args) throws IOException {
        Check check = new Check("FaceTest");
        Class<?> face = PostRoad.class;
        check.holds("public and final", face.getModifiers() == (Modifier.PUBLIC | Modifier.FINAL));
        check.holds("no package", face.getPackageName().isEmpty());
        check.holds("no class above it", face.getSuperclass() == Object.class && face.getInterfaces().length == 0);
        Set<String> seen = visible(face.getDeclaredMethods()).map(m -> told((Method) m)).collect(Collectors.toCollection(TreeSet::new));
        check.holds("methods: " + seen, seen.equals(new TreeSet<>(Arrays.asList(METHODS))));
        constructors(check, face.getDeclaredConstructors());
        fields(check, face);
        privateNames(check, face);
        for (Class<?> inside : face.getDeclaredClasses()) {
            check.holds(inside + " is not public or protected",
                (inside.getModifiers() & (Modifier.PUBLIC | Modifier.PROTECTED)) == 0);
        }
        headings(check);
        check.end();
    }

    private static Stream<Member> visible(Member[] members) {
        return Arrays.stream(members).filter(m -> !Modifier.isPrivate(m.getModifiers()) && !m.isSynthetic());
    }

    private static String names(Class<?>[] types) {
        return Arrays.stream(types).map(Class::getSimpleName).collect(Collectors.joining(", "));
    }

    private static String told(Method m) {
        String thrown = names(m.getExceptionTypes());
        return Modifier.toString(m.getModifiers()) + " " + m.getReturnType() + " " + m.getName() + "("
            + names(m.getParameterTypes()) + ")" + (thrown.isEmpty() ? "" : " throws " + thrown);
    }

    private static void constructors(Check check, Constructor<?>[] found) {
        check.due("constructors", found.length, 1);
        check.holds("the constructor", found[0].getModifiers() == Modifier.PUBLIC
            && found[0].getParameterCount() == 0 && found[0].getExceptionTypes().length == 0);
    }

    private static void fields(Check check, Class<?> face) {
        String seen = visible(face.getDeclaredFields())
            .map(f -> Modifier.toString(f.getModifiers()) + " " + ((Field) f).getType() + " " + f.getName())
            .collect(Collectors.joining("; "));
        check.holds("constants: " + seen, seen.equals("public static final int NONE"));
    }

    private static void privateNames(Check check, Class<?> face) {
        Set<String> open = visible(face.getDeclaredMethods()).map(Member::getName).collect(Collectors.toSet());
        Arrays.stream(face.getDeclaredMethods()).filter(m -> Modifier.isPrivate(m.getModifiers()))
            .forEach(m -> check.holds(m + " bears no public method's name", !open.contains(m.getName())));
    }

    /** "Ahead of the calls .. the interface says: ---- ..": the source says it there, and has the calls in that order. */
    private static void headings(Check check) throws IOException {
        String due = "";
        Matcher said = Pattern.compile("(?m)^Ahead of the calls (.*) the interface says: ---- (.*)\\.$")
            .matcher(Files.readString(Path.of("../shared/DOC.md")));
        while (said.find()) {
            due += "---- " + said.group(2) + ", " + said.group(1).replace("`", "") + ", ";
        }
        String found = "";
        Matcher line = Pattern.compile("(?m)^ {4}(?:// (---- .*)|public (?:int|long|double) (\\w+)\\(.*)$")
            .matcher(Files.readString(Path.of("src/main/java/PostRoad.java")));
        while (line.find()) {
            found += (line.group(1) == null ? line.group(2) : line.group(1)) + ", ";
        }
        check.holds("it says \"" + found + "\", due is \"" + due + "\"", found.equals(due) && !due.isEmpty());
    }
}
