/** Promise 8: stage. */
public final class Promise08Test {
    public static void main(String[] args) {
        Check check = new Check("Promise 8");
        check.sentence("Returns something about a stage.", Promise08Test::onlyAsks);
        check.sentence("- stage: number of a stage", Promise08Test::eachStage);
        check.sentence("- what: 0 its hours", c -> answers(c, 0, 2, 9, 1, 1, 3));
        check.sentence("1 its hill", c -> answers(c, 1, 3, -5, 5, -5, 0));
        check.sentence("2 1 if it is blocked, otherwise 0", Promise08Test::blocked);
        check.sentence("3 its effort away from inn 0", c -> answers(c, 3, 22, 25, 25, 5, 15));
        check.sentence("4 its effort toward inn 0", c -> answers(c, 4, 5, 65, 5, 25, 15));
        check.sentence("5 the teams on it", Promise08Test::teams);
        check.sentence("Returns that value.", Promise08Test::allValues);
        check.sentence("Throws IndexOutOfBoundsException if there is no such stage", Promise08Test::noSuchStage);
        check.sentence("Throws IllegalArgumentException if what is out of range", Promise08Test::outOfRange);
        check.end();
    }

    private static Run five() {
        return Run.road("2+3;9-5;1+5;1-5;3;");
    }

    private static void answers(Check check, int what, int... want) {
        Run x = five();
        for (int i = 0; i < 5; i++) {
            check.due("stage(" + i + ", " + what + ")", x.stage(i, what), want[i]);
        }
    }

    private static void onlyAsks(Check check) {
        for (int what = 0; what <= 5; what++) {
            int asked = what;
            check.changesNothing(TermsUndoTest.busy(), "stage(0, " + what + ")", x -> x.stage(0, asked));
        }
    }

    private static void eachStage(Check check) {
        Run x = Run.road("1;2;3;4;5;6;7;");
        for (int i = 0; i < 7; i++) {
            check.stage(x, i, i + 1, 0, 0, 5 * (i + 1), 5 * (i + 1), 0);
        }
    }

    private static void blocked(Check check) {
        Run x = five();
        x.setStage(3, 1, -5, true);
        for (int i = 0; i < 5; i++) {
            check.due("stage(" + i + ", 2)", x.stage(i, 2), i == 3 ? 1 : 0);
        }
        x.setStage(3, 1, -5, false);
        check.due("stage(3, 2)", x.stage(3, 2), 0);
    }

    /** With letters both ways and walking back; none, one and three, but none of those that stand beside it. */
    private static void teams(Check check) {
        Run x = five();
        x.setInn(4, 6, 0, false);
        x.setInn(5, 6, 0, false);
        x.addTeam(4, 0);
        x.addTeam(5, 0);
        x.addTeam(5, 0);
        x.addTeam(1, 0);
        x.addTeam(1, 100);
        x.give(4, 5, false);
        x.give(5, 4, false);
        x.give(5, 4, false);
        x.give(1, 2, false);
        x.pass(1);
        int[] want = {0, 1, 0, 0, 3};
        for (int i = 0; i < 5; i++) {
            check.due("stage(" + i + ", 5)", x.stage(i, 5), want[i]);
        }
        x.pass(3);
        check.due("stage(4, 5) when they have come", x.stage(4, 5), 0);
        Run back = Run.road("1;1;");
        back.addTeam(1, 0);
        back.give(1, 0, false);
        back.pass(3);
        check.due("team(0, 5)", back.team(0, 5), 1);
        check.due("stage(0, 5)", back.stage(0, 5), 1);
        check.due("stage(1, 5)", back.stage(1, 5), 0);
        allTen(check);
    }

    private static void allTen(Check check) {
        Run x = Run.road("9;");
        x.setInn(0, 6, 0, false);
        x.setInn(1, 6, 0, false);
        for (int i = 0; i < 10; i++) {
            x.addTeam(i % 2, 0);
            x.give(i % 2, 1 - i % 2, false);
        }
        x.pass(1);
        check.due("stage(0, 5) of ten", x.stage(0, 5), 10);
    }

    private static void allValues(Check check) {
        Run x = five();
        check.stage(x, 0, 2, 3, 0, 22, 5, 0);
        x.setStage(0, 2, 1, true);
        check.stage(x, 0, 2, 1, 1, 14, 6, 0);
    }

    private static void noSuchStage(Check check) {
        check.numbers(Run::new, "stage", 1, (x, i) -> x.stage(i, 0));
        check.numbers(Promise08Test::five, "stage", 5, (x, i) -> x.stage(i, 5));
        check.badIndex(five(), "stage(5, 6)", x -> x.stage(5, 6));
        check.badIndex(five(), "stage(-1, -1)", x -> x.stage(-1, -1));
    }

    private static void outOfRange(Check check) {
        check.range(Promise08Test::five, "stage, what", 0, 5, (x, v) -> x.stage(4, v));
    }
}
