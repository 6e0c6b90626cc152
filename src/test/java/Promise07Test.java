/** Promise 7: pass; the four parts of an hour have tests of their own. */
public final class Promise07Test {
    public static void main(String[] args) {
        Check check = new Check("Promise 7");
        check.sentence("Lets hours pass.", Promise07Test::letsHoursPass);
        check.sentence("Undoable.", Promise07Test::undoable);
        check.sentence("- hours: 1 to 200", Promise07Test::hours);
        check.sentence("Returns the number of letters that are delivered in them.", Promise07Test::delivered);
        check.sentence("Throws IllegalArgumentException if hours is out of range", Promise07Test::outOfRange);
        check.sentence("Throws IllegalStateException if the hour would be later than 10000", Promise07Test::tooLate);
        check.end();
    }

    private static Run at(int hour) {
        Run x = new Run();
        x.passTo(hour);
        return x;
    }

    /** Some hours at once are the same as one after the other. */
    private static void letsHoursPass(Check check) {
        for (int hours : new int[] {1, 2, 3, 40, 200}) {
            Run atOnce = TermsUndoTest.busy();
            Run oneByOne = TermsUndoTest.busy();
            int sum = 0;
            for (int i = 0; i < hours; i++) {
                sum += oneByOne.pass(1);
            }
            check.due("pass(" + hours + ")", atOnce.pass(hours), sum);
            check.due("state after pass(" + hours + ")", atOnce.state(), oneByOne.state());
        }
    }

    private static void undoable(Check check) {
        check.undoable(new Run(), "pass(1)", x -> x.pass(1));
        check.undoable(TermsUndoTest.busy(), "pass(1)", x -> x.pass(1));
        check.undoable(TermsUndoTest.busy(), "pass(200) is one step", x -> x.pass(200));
        Run late = at(9999);
        check.undoable(late, "pass(1) to the last hour", x -> x.pass(1));
        late.pass(1);
        late.undo();
        check.due("value(3)", late.value(3), 9999);
        check.due("pass(1) after undo()", late.pass(1), 0);
    }

    private static void hours(Check check) {
        for (int hours = 1; hours <= 200; hours++) {
            Run x = new Run();
            x.pass(hours);
            check.due("value(3)", x.value(3), hours);
        }
    }

    /** None, one, all twelve; each is counted once, in the hours in which it was delivered. */
    private static void delivered(Check check) {
        check.due("pass(200) without letters", new Run().pass(200), 0);
        Run x = new Run();
        x.setInn(1, 6, 100, false);
        x.addTeam(0, 0);
        x.addTeam(0, 0);
        x.addTeam(1, 0);
        x.give(0, 1, false);
        x.give(0, 1, true);
        x.give(1, 0, false);
        check.due("pass(2)", x.pass(2), 0);
        check.due("pass(1)", x.pass(1), 3);
        check.due("pass(1) after the last", x.pass(1), 0);
        Run all = Run.road("1;");
        all.addTeam(0, 0);
        for (int i = 0; i < 12; i++) {
            all.give(0, 1, i % 2 == 0);
        }
        check.due("pass(2)", all.pass(2), 1);
        check.due("pass(200)", all.pass(200), 11);
        check.due("pass(200) after the last", all.pass(200), 0);
        check.due("value(4)", all.value(4), 12);
    }

    private static void outOfRange(Check check) {
        check.range(Run::new, "pass", 1, 200, (x, v) -> x.pass(v));
        for (int hours : new int[] {0, -1, 201, Integer.MIN_VALUE, Integer.MAX_VALUE}) {
            check.badArgument(at(10000), "pass(" + hours + ") at 10000", x -> x.pass(hours));
        }
        check.badArgument(TermsUndoTest.busy(), "pass(0)", x -> x.pass(0));
        check.badArgument(TermsUndoTest.busy(), "pass(201)", x -> x.pass(201));
    }

    /** The hour 10000 may be reached, by one hour and by 200, but not the hour 10001. */
    private static void tooLate(Check check) {
        int[][] fits = {{9799, 200}, {9800, 200}, {9801, 199}, {9990, 10}, {9998, 1}, {9998, 2}, {9999, 1}};
        for (int[] f : fits) {
            Run x = at(f[0]);
            check.due("pass(" + f[1] + ") at " + f[0], x.pass(f[1]), 0);
            check.due("value(3)", x.value(3), f[0] + f[1]);
        }
        int[][] late = {{9801, 200}, {9990, 11}, {9998, 3}, {9999, 2}, {9999, 200}, {10000, 1}, {10000, 200}};
        for (int[] l : late) {
            check.badState(at(l[0]), "pass(" + l[1] + ") at " + l[0], x -> x.pass(l[1]));
        }
        nothingHasPassed(check);
        theRoadIsReadAgain(check);
    }

    /** A call that is refused lets no hour pass, not even those that there would be. */
    private static void nothingHasPassed(Check check) {
        Run x = at(9998);
        x.addTeam(0, 50);
        x.give(0, 1, true);
        check.badState(x, "pass(3) at 9998", r -> r.pass(3));
        check.team(x, 0, 0, 50, 0, 0, -1);
        check.due("value(3)", x.value(3), 9998);
        x.pass(2);
        check.team(x, 0, 0, 44, 1, 1, 0);
    }

    private static void theRoadIsReadAgain(Check check) {
        Run x = at(10000);
        x.append("1;");
        x.parse();
        check.due("pass(200)", x.pass(200), 0);
        check.due("value(3)", x.value(3), 200);
        x.undo();
        x.undo();
        check.badState(x, "pass(1) at 10000 again", r -> r.pass(1));
    }
}
