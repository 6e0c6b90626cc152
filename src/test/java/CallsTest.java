import java.util.function.Consumer;

/** "An object is used for at most 512 calls after it has been made": the last of them answers as the first. */
public final class CallsTest {
    private static final int MOST_CALLS = 512;

    public static void main(String[] args) {
        Check check = new Check("CallsTest");
        undoables(check);
        check.due("clearText(), the last of 512 calls", after(x -> x.append('1'), 90).clearText(), 90);
        check.due("bestInn(), the last of 512 calls", after(Run::bestInn, MOST_CALLS - 1).bestInn(), 0);
        check.due("undo(), the last of 512 calls", after(Run::collect, MOST_CALLS - 1).undo(), 3);
        check.end();
    }

    private static Run after(Consumer<Run> call, int times) {
        Run x = new Run();
        for (int i = 0; i < times; i++) {
            call.accept(x);
        }
        for (int i = times; i < MOST_CALLS - 1; i++) {
            x.digest();
        }
        return x;
    }

    /** Of 508 saved states the last four come back. */
    private static void undoables(Check check) {
        Run x = new Run();
        for (int i = 1; i <= MOST_CALLS - 4; i++) {
            int before = x.setInn(0, 2, i, false);
            check.due("setInn of fodder " + i, before, i == 1 ? 100 : i - 1);
        }
        for (int left = 3; left >= 0; left--) {
            check.due("undo()", x.undo(), left);
        }
    }
}
