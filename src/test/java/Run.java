import java.util.ArrayList;
import java.util.List;
import java.util.function.Consumer;
import java.util.function.ToIntFunction;

/**
 * A PostRoad under test. It keeps to the 512 calls for which the document promises something, and remembers what
 * changed the object, so that a second one can be made by the same calls.
 */
final class Run {
    private static final int MOST_CALLS = 512;
    private static final int MOST_SAVED = 4;

    private final PostRoad road = new PostRoad();
    private final List<ToIntFunction<PostRoad>> changes = new ArrayList<>();
    private int calls;
    private int saved;

    /** A road of the text; parse() has saved one state then. */
    static Run road(String text) {
        Run x = typed(text);
        x.parse();
        return x;
    }

    static Run typed(String text) {
        Run x = new Run();
        x.append(text);
        return x;
    }

    void append(String text) {
        for (int i = 0; i < text.length(); i++) {
            append(text.charAt(i));
        }
    }

    void passTo(int hour) {
        for (int left = hour - value(3); left > 0; left -= 200) {
            pass(Math.min(200, left));
        }
    }

    /** Another one, by the same calls without those that were refused and those that only asked. */
    Run again() {
        Run other = new Run();
        changes.forEach(other::change);
        other.saved = saved;
        return other;
    }

    /** A number that tells the state without the saved ones. */
    long state() {
        return digest() - saved;
    }

    int saved() {
        return saved;
    }

    /** What the same changes and then one call, refused or not, lead to: now, in hours to come, by undo() and parse(). */
    List<Long> leadsTo(Consumer<Run> next) {
        List<Long> told = new ArrayList<>();
        hoursOn(againAnd(next), told);
        undone(againAnd(next), told);
        readAgain(againAnd(next), told);
        return told;
    }

    private Run againAnd(Consumer<Run> next) {
        Run other = again();
        try {
            next.accept(other);
        } catch (RuntimeException refused) {
            return other;
        }
        return other;
    }

    private static void hoursOn(Run x, List<Long> told) {
        told.add(x.digest());
        for (int hours : new int[] {1, 1, 2, 5, 30}) {
            if (x.value(3) + hours <= 10000) {
                told.add((long) x.pass(hours));
                told.add(x.digest());
            }
        }
    }

    private static void undone(Run x, List<Long> told) {
        try {
            for (int i = 0; i <= MOST_SAVED; i++) {
                told.add((long) x.undo());
                told.add(x.digest());
            }
        } catch (IllegalStateException noneIsLeft) {
            told.add(x.digest());
        }
    }

    private static void readAgain(Run x, List<Long> told) {
        told.add((long) x.parse());
        told.add(x.digest());
        told.add((long) x.clearText());
    }

    private PostRoad counted() {
        calls++;
        if (calls > MOST_CALLS) {
            throw new AssertionError("the test makes more than " + MOST_CALLS + " calls of one object");
        }
        return road;
    }

    private int change(ToIntFunction<PostRoad> call) {
        int answer = call.applyAsInt(counted());
        changes.add(call);
        return answer;
    }

    private int undoable(ToIntFunction<PostRoad> call) {
        int answer = change(call);
        saved = Math.min(MOST_SAVED, saved + 1);
        return answer;
    }

    int setStage(int stage, int hours, int hill, boolean blocked) {
        return undoable(r -> r.setStage(stage, hours, hill, blocked));
    }

    int setInn(int inn, int beds, int fodder, boolean shut) {
        return undoable(r -> r.setInn(inn, beds, fodder, shut));
    }

    int addTeam(int home, int tiredness) {
        return undoable(r -> r.addTeam(home, tiredness));
    }

    int give(int from, int to, boolean express) {
        return undoable(r -> r.give(from, to, express));
    }

    int collect() {
        return undoable(PostRoad::collect);
    }

    int pass(int hours) {
        return undoable(r -> r.pass(hours));
    }

    int stage(int stage, int what) {
        return counted().stage(stage, what);
    }

    int inn(int inn, int what) {
        return counted().inn(inn, what);
    }

    int team(int team, int what) {
        return counted().team(team, what);
    }

    int letter(int letter, int what) {
        return counted().letter(letter, what);
    }

    int value(int what) {
        return counted().value(what);
    }

    int why(int letter) {
        return counted().why(letter);
    }

    int hoursTo(int letter) {
        return counted().hoursTo(letter);
    }

    int hoursToAll() {
        return counted().hoursToAll();
    }

    int bestInn() {
        return counted().bestInn();
    }

    int way(int from, int to) {
        return counted().way(from, to);
    }

    int effortHome(int team) {
        return counted().effortHome(team);
    }

    double meanTiredness() {
        return counted().meanTiredness();
    }

    int append(int value) {
        return change(r -> r.append(value));
    }

    int clearText() {
        return change(PostRoad::clearText);
    }

    int parse() {
        int answer = change(PostRoad::parse);
        saved = answer > 0 ? Math.min(MOST_SAVED, saved + 1) : saved;
        return answer;
    }

    int undo() {
        saved = change(PostRoad::undo);
        return saved;
    }

    long digest() {
        return counted().digest();
    }
}
