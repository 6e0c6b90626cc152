/** Promise 18: effortHome. */
public final class Promise18Test {
    public static void main(String[] args) {
        Check check = new Check("Promise 18");
        check.sentence("Tells what the way home would cost a team, if it ran it.", Promise18Test::ifItRanIt);
        check.sentence("- team: number of a team", Promise18Test::eachTeam);
        check.sentence("Returns the sum of the efforts of the stages from the inn of team(team, 2) to its home",
            Promise18Test::sumOfEfforts);
        check.sentence("in this direction.", Promise18Test::direction);
        check.sentence("Throws IndexOutOfBoundsException if there is no such team", Promise18Test::noSuchTeam);
        check.end();
    }

    /** At home, a stage or three away; whatever hinders it, and as the stages are now. */
    private static void ifItRanIt(Check check) {
        Run x = homeAbove(3);
        check.due("effortHome(0)", x.effortHome(0), 9 + 6 + 25);
        x.setInn(3, 0, 0, true);
        x.setStage(0, 9, 5, true);
        check.due("effortHome(0) over a blocked hill", x.effortHome(0), 65 + 6 + 25);
        check.changesNothing(TermsUndoTest.busy(), "effortHome(1)", r -> r.effortHome(1));
    }

    private static void eachTeam(Check check) {
        Run x = Run.road("1;1;");
        for (int i = 0; i < 10; i++) {
            x.addTeam(i % 3, 0);
        }
        for (int i = 0; i < 10; i++) {
            check.due("effortHome(" + i + ") at home", x.effortHome(i), 0);
        }
        Run last = Run.road("2-3;");
        for (int i = 0; i < 10; i++) {
            last.addTeam(0, i < 9 ? 90 : 0);
        }
        last.give(0, 1, false);
        last.pass(1);
        check.due("effortHome(8)", last.effortHome(8), 0);
        check.due("effortHome(9)", last.effortHome(9), 22);
    }

    /** A team of inn 0 on its way to inn 3, over 1+1, 2-1 and 1+5. */
    private static Run homeBelow(int stages) {
        Run x = Run.road("1+1;2-1;1+5;");
        x.addTeam(0, 0);
        x.give(0, 3, false);
        int[] hours = {0, 1, 2, 4};
        x.passTo(hours[stages]);
        return x;
    }

    private static Run homeAbove(int stages) {
        Run x = Run.road("1+1;2-1;1+5;");
        x.addTeam(3, 0);
        x.give(3, 0, false);
        int[] hours = {0, 1, 2, 4};
        x.passTo(hours[stages]);
        return x;
    }

    /** On a stage to an inn it counts as if it stood there, also while it walks back. */
    private static void sumOfEfforts(Check check) {
        int[] below = {0, 5, 5 + 14, 5 + 14 + 5};
        int[] above = {0, 25, 6 + 25, 9 + 6 + 25};
        for (int stages = 0; stages <= 3; stages++) {
            check.due("team(0, 2)", homeBelow(stages).team(0, 2), stages);
            check.due("effortHome(0), home below", homeBelow(stages).effortHome(0), below[stages]);
            check.due("team(0, 2)", homeAbove(stages).team(0, 2), 3 - stages);
            check.due("effortHome(0), home above", homeAbove(stages).effortHome(0), above[stages]);
        }
        Run walking = Run.road("1;1;");
        walking.addTeam(0, 0);
        walking.give(0, 2, false);
        walking.pass(5);
        check.team(walking, 0, 0, 0, 1, 2, -1, 1);
        check.due("effortHome(0) walking to inn 1", walking.effortHome(0), 5);
        walking.pass(2);
        check.team(walking, 0, 0, 0, 0, 2, -1, 1);
        check.due("effortHome(0) walking to its home", walking.effortHome(0), 0);
    }

    private static void direction(Check check) {
        for (int hill = -5; hill <= 5; hill++) {
            Run away = Run.road("9;");
            away.addTeam(1, 0);
            away.give(1, 0, false);
            away.pass(1);
            away.setStage(0, 6, hill, false);
            check.due("effortHome(0) away from inn 0", away.effortHome(0), 30 + 4 * hill);
            Run toward = Run.road("9;");
            toward.addTeam(0, 0);
            toward.give(0, 1, false);
            toward.pass(1);
            toward.setStage(0, 6, hill, false);
            check.due("effortHome(0) toward inn 0", toward.effortHome(0), 30 - 4 * hill);
        }
    }

    private static void noSuchTeam(Check check) {
        check.numbers(Run::new, "effortHome", 0, (x, i) -> x.effortHome(i));
        check.numbers(() -> homeBelow(2), "effortHome", 1, (x, i) -> x.effortHome(i));
        check.numbers(() -> Promise04Test.withTeams(10), "effortHome", 10, (x, i) -> x.effortHome(i));
    }
}
