import java.util.ArrayList;
import java.util.List;
import java.util.function.Consumer;
import java.util.function.Supplier;

/** The term "Exceptions": each call with values on, below and above each edge, in several states. */
public final class TermsExceptionsTest {
    private static final int LEAST = Integer.MIN_VALUE;
    private static final int MOST = Integer.MAX_VALUE;

    private final Check check;
    private final Supplier<Run> fresh;
    private final int inns;
    private final int teams;
    private final int letters;
    private final List<Consumer<Run>> refused = new ArrayList<>();

    private TermsExceptionsTest(Check check, Supplier<Run> fresh) {
        this.check = check;
        this.fresh = fresh;
        Run x = fresh.get();
        inns = x.value(0);
        teams = x.value(1);
        letters = x.value(2);
    }

    public static void main(String[] args) {
        Check check = new Check("Exceptions");
        List<TermsExceptionsTest> states = new ArrayList<>();
        for (Supplier<Run> fresh : List.<Supplier<Run>>of(Run::new, TermsUndoTest::busy, TermsExceptionsTest::full)) {
            states.add(new TermsExceptionsTest(check, fresh));
        }
        check.sentence("If several exceptions apply, the one that is listed first is thrown.",
            c -> states.forEach(TermsExceptionsTest::listedFirst));
        check.sentence("A call that throws an exception changes nothing.",
            c -> states.forEach(TermsExceptionsTest::changeNothing));
        check.end();
    }

    /** Ten teams, twelve letters, eight inns, 90 bytes, the hour 10000, four saved states. */
    private static Run full() {
        Run x = Run.road("1;2+1;1;3-5;2;1+4;1;");
        x.append("1".repeat(90 - 20));
        x.passTo(9990);
        for (int i = 0; i < 10; i++) {
            x.addTeam(i % 8, 9 * i);
        }
        for (int i = 0; i < 12; i++) {
            x.give(i % 8, (i + 3) % 8, i % 3 == 0);
        }
        x.passTo(10000);
        return x;
    }

    private static int[] numbers(int count) {
        return count == 0 ? new int[] {LEAST, -1, 0, MOST} : new int[] {LEAST, -1, 0, count - 1, count, MOST};
    }

    private static int[] values(int least, int most) {
        return new int[] {LEAST, least - 1, least, most, most + 1, MOST};
    }

    private static boolean none(int number, int count) {
        return number < 0 || number >= count;
    }

    private static boolean out(int value, int least, int most) {
        return value < least || value > most;
    }

    /** The three may apply together: the first of them is due. */
    private void due(String call, boolean index, boolean argument, boolean state, Consumer<Run> run) {
        if (index) {
            check.badIndex(fresh.get(), call, run);
        } else if (argument) {
            check.badArgument(fresh.get(), call, run);
        } else if (state) {
            check.badState(fresh.get(), call, run);
        } else {
            check.fits(fresh.get(), call, run);
            return;
        }
        refused.add(run);
    }

    private void listedFirst() {
        setStage();
        setInn();
        addTeam();
        give();
        pass();
        questions();
        numbersAlone();
        text();
    }

    private void setStage() {
        for (int stage : numbers(inns - 1)) {
            for (int hours : values(1, 9)) {
                for (int hill : values(-5, 5)) {
                    due("setStage(" + stage + ", " + hours + ", " + hill + ")", none(stage, inns - 1),
                        out(hours, 1, 9) || out(hill, -5, 5), false, x -> x.setStage(stage, hours, hill, true));
                }
            }
        }
    }

    private void setInn() {
        for (int inn : numbers(inns)) {
            for (int beds : values(0, 6)) {
                for (int fodder : values(0, 999)) {
                    due("setInn(" + inn + ", " + beds + ", " + fodder + ")", none(inn, inns),
                        out(beds, 0, 6) || out(fodder, 0, 999), false, x -> x.setInn(inn, beds, fodder, true));
                }
            }
        }
    }

    private void addTeam() {
        for (int home : numbers(inns)) {
            for (int tiredness : values(0, 100)) {
                due("addTeam(" + home + ", " + tiredness + ")", none(home, inns), out(tiredness, 0, 100), teams == 10,
                    x -> x.addTeam(home, tiredness));
            }
        }
    }

    private void give() {
        for (int from : numbers(inns)) {
            for (int to : numbers(inns)) {
                due("give(" + from + ", " + to + ")", none(from, inns) || none(to, inns), from == to, letters == 12,
                    x -> x.give(from, to, true));
            }
        }
    }

    private void pass() {
        int hour = fresh.get().value(3);
        for (int hours : values(1, 200)) {
            due("pass(" + hours + ")", false, out(hours, 1, 200), hour + (long) hours > 10000, x -> x.pass(hours));
        }
    }

    private void questions() {
        about("stage", inns - 1, 5, (x, number, what) -> x.stage(number, what));
        about("inn", inns, 6, (x, number, what) -> x.inn(number, what));
        about("team", teams, 9, (x, number, what) -> x.team(number, what));
        about("letter", letters, 7, (x, number, what) -> x.letter(number, what));
        for (int what : values(0, 10)) {
            due("value(" + what + ")", false, out(what, 0, 10), false, x -> x.value(what));
        }
    }

    private interface About {
        int ask(Run x, int number, int what);
    }

    private void about(String call, int count, int last, About about) {
        for (int number : numbers(count)) {
            for (int what : values(0, last)) {
                due(call + "(" + number + ", " + what + ")", none(number, count), out(what, 0, last), false,
                    x -> about.ask(x, number, what));
            }
        }
    }

    private void numbersAlone() {
        for (int letter : numbers(letters)) {
            due("why(" + letter + ")", none(letter, letters), false, false, x -> x.why(letter));
            due("hoursTo(" + letter + ")", none(letter, letters), false, false, x -> x.hoursTo(letter));
        }
        for (int team : numbers(teams)) {
            due("effortHome(" + team + ")", none(team, teams), false, false, x -> x.effortHome(team));
        }
        for (int from : numbers(inns)) {
            for (int to : numbers(inns)) {
                due("way(" + from + ", " + to + ")", none(from, inns) || none(to, inns), false, false,
                    x -> x.way(from, to));
            }
        }
    }

    private void text() {
        int length = fresh.get().clearText();
        for (int value : values(0, 127)) {
            due("append(" + value + ")", false, out(value, 0, 127), length == 90, x -> x.append(value));
        }
        due("undo()", false, false, fresh.get().saved() == 0, Run::undo);
    }

    /** All that were refused, a hundred in a row. */
    private void changeNothing() {
        for (int i = 0; i < refused.size(); i += 100) {
            List<Consumer<Run>> some = refused.subList(i, Math.min(refused.size(), i + 100));
            check.changesNothing(fresh.get(), "a row of refused calls", x -> some.forEach(run -> swallow(x, run)));
        }
    }

    private static void swallow(Run x, Consumer<Run> run) {
        try {
            run.accept(x);
        } catch (IndexOutOfBoundsException | IllegalArgumentException | IllegalStateException due) {
            return;
        }
    }
}
