/** Promise 4: addTeam. */
public final class Promise04Test {
    public static void main(String[] args) {
        Check check = new Check("Promise 4");
        check.sentence("Adds a team that stands at its home inn.", Promise04Test::standsAtHome);
        check.sentence("Undoable.", Promise04Test::undoable);
        check.sentence("- home: number of an inn", Promise04Test::eachHome);
        check.sentence("- tiredness: 0 to 100", Promise04Test::tiredness);
        check.sentence("Returns the number of the team.", Promise04Test::numberOfTheTeam);
        check.sentence("Throws IndexOutOfBoundsException if there is no such inn", Promise04Test::noSuchInn);
        check.sentence("Throws IllegalArgumentException if tiredness is out of range", Promise04Test::outOfRange);
        check.sentence("Throws IllegalStateException if there are 10 teams", Promise04Test::tenTeams);
        check.end();
    }

    static Run withTeams(int count) {
        Run x = Run.road("1;1;");
        for (int i = 0; i < count; i++) {
            x.addTeam(1, 0);
        }
        return x;
    }

    private static void standsAtHome(Check check) {
        Run x = Run.road("1;1;");
        x.addTeam(2, 100);
        x.addTeam(0, 0);
        check.team(x, 0, 2, 100, 2, 0, -1, 0, 0, 0, 0, 0);
        check.team(x, 1, 0, 0, 0, 0, -1, 0, 0, 0, 0, 0);
        check.inn(x, 2, 2, 100, 0, 1, 0, 0, 1);
        check.values(x, 3, 2, 0, 0, 0, 0, 0, 0, 0, 0, 0);
        x.setInn(1, 0, 0, true);
        check.due("addTeam at a shut inn without beds", x.addTeam(1, 1), 2);
        check.inn(x, 1, 0, 0, 1, 1, 0, 0, 0);
        aNumberUsedAgainIsFresh(check);
    }

    private static void aNumberUsedAgainIsFresh(Check check) {
        for (int hours = 1; hours < 12; hours++) {
            Run x = Run.road("1;1;");
            x.addTeam(0, 20);
            x.give(0, 2, false);
            x.pass(hours);
            x.undo();
            x.undo();
            x.undo();
            x.addTeam(1, 5);
            check.team(x, 0, 1, 5, 1, 0, -1, 0, 0, 0, 0, 0);
            check.due("stage(0, 5)", x.stage(0, 5), 0);
        }
    }

    private static void undoable(Check check) {
        check.undoable(new Run(), "addTeam", x -> x.addTeam(1, 30));
        check.undoable(withTeams(9), "addTeam of the tenth", x -> x.addTeam(0, 100));
        check.undoable(TermsUndoTest.busy(), "addTeam between busy ones", x -> x.addTeam(3, 0));
    }

    private static void eachHome(Check check) {
        for (int home = 0; home < 8; home++) {
            Run x = Run.road("1;1;1;1;1;1;1;");
            x.addTeam(home, 3);
            check.team(x, 0, home, 3, home);
            for (int i = 0; i < 8; i++) {
                check.due("inn(" + i + ", 3)", x.inn(i, 3), i == home ? 1 : 0);
            }
        }
    }

    private static void tiredness(Check check) {
        for (int tiredness = 0; tiredness <= 100; tiredness++) {
            Run x = new Run();
            x.addTeam(0, tiredness);
            check.team(x, 0, 0, tiredness, 0);
        }
    }

    private static void numberOfTheTeam(Check check) {
        Run x = Run.road("1;1;");
        for (int i = 0; i < 10; i++) {
            check.due("addTeam", x.addTeam(i % 3, 10 * i), i);
            check.due("value(1)", x.value(1), i + 1);
            check.team(x, i, i % 3, 10 * i);
        }
    }

    private static void noSuchInn(Check check) {
        check.numbers(Run::new, "addTeam", 2, (x, i) -> x.addTeam(i, 0));
        check.numbers(() -> Run.road("1;1;1;1;1;1;1;"), "addTeam", 8, (x, i) -> x.addTeam(i, 0));
        check.badIndex(new Run(), "addTeam(2, 101)", x -> x.addTeam(2, 101));
        check.badIndex(withTeams(10), "addTeam(3, 0) with ten teams", x -> x.addTeam(3, 0));
        check.badIndex(withTeams(10), "addTeam(-1, -1) with ten teams", x -> x.addTeam(-1, -1));
    }

    private static void outOfRange(Check check) {
        check.range(Run::new, "addTeam, tiredness", 0, 100, (x, v) -> x.addTeam(0, v));
        check.badArgument(withTeams(10), "addTeam(0, 101) with ten teams", x -> x.addTeam(0, 101));
        check.badArgument(withTeams(10), "addTeam(0, -1) with ten teams", x -> x.addTeam(0, -1));
    }

    private static void tenTeams(Check check) {
        check.due("addTeam with nine teams", withTeams(9).addTeam(0, 0), 9);
        check.badState(withTeams(10), "addTeam(0, 0) with ten teams", x -> x.addTeam(0, 0));
        check.badState(withTeams(10), "addTeam(2, 100) with ten teams", x -> x.addTeam(2, 100));
    }
}
