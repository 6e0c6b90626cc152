/** Promise 2: setStage. */
public final class Promise02Test {
    public static void main(String[] args) {
        Check check = new Check("Promise 2");
        check.sentence("Sets a stage.", Promise02Test::sets);
        check.sentence("Undoable.", Promise02Test::undoable);
        check.sentence("- stage: number of a stage", Promise02Test::eachStage);
        check.sentence("- hours: 1 to 9", Promise02Test::hours);
        check.sentence("- hill: -5 to 5", Promise02Test::hill);
        check.sentence("- blocked: whether it is blocked", Promise02Test::blocked);
        check.sentence("Returns its previous hours.", Promise02Test::previousHours);
        check.sentence("Throws IndexOutOfBoundsException if there is no such stage", Promise02Test::noSuchStage);
        check.sentence("Throws IllegalArgumentException if hours or hill is out of range", Promise02Test::outOfRange);
        check.end();
    }

    private static void sets(Check check) {
        Run x = Run.road("3+1;4;");
        x.setStage(0, 9, 5, true);
        check.stage(x, 0, 9, 5, 1, 65, 25, 0);
        check.stage(x, 1, 4, 0, 0, 20, 20, 0);
        x.setStage(0, 1, -5, false);
        check.stage(x, 0, 1, -5, 0, 5, 25, 0);
        check.values(x, 3, 0, 0, 0, 0, 0, 0, 0, 0, 0, 0);
        x.setStage(0, 3, 1, false);
        check.due("state, all as before", x.state(), Run.road("3+1;4;").state());
    }

    private static void undoable(Check check) {
        check.undoable(Run.road("3+1;4;"), "setStage", x -> x.setStage(1, 7, 2, true));
        check.undoable(Run.road("3+1;4;"), "setStage that changes nothing", x -> x.setStage(1, 4, 0, false));
        check.undoable(TermsUndoTest.busy(), "setStage under teams", x -> x.setStage(0, 9, -5, true));
    }

    private static void eachStage(Check check) {
        for (int stage = 0; stage < 7; stage++) {
            Run x = Run.road("2;2;2;2;2;2;2;");
            x.setStage(stage, 5, -1, true);
            for (int i = 0; i < 7; i++) {
                check.stage(x, i, i == stage ? 5 : 2, i == stage ? -1 : 0, i == stage ? 1 : 0);
            }
        }
    }

    private static void hours(Check check) {
        for (int hours = 1; hours <= 9; hours++) {
            Run x = new Run();
            x.setStage(0, hours, 2, false);
            check.stage(x, 0, hours, 2, 0, 5 * hours + 8);
        }
    }

    private static void hill(Check check) {
        for (int hill = -5; hill <= 5; hill++) {
            Run x = new Run();
            x.setStage(0, 8, hill, true);
            check.stage(x, 0, 8, hill, 1, 40 + 4 * hill, 40 - 4 * hill);
        }
    }

    private static void blocked(Check check) {
        Run x = new Run();
        for (boolean blocked : new boolean[] {true, true, false, false, true}) {
            x.setStage(0, 2, 0, blocked);
            check.stage(x, 0, 2, 0, blocked ? 1 : 0);
        }
    }

    private static void previousHours(Check check) {
        Run x = Run.road("3;4;");
        check.due("setStage of a new stage", new Run().setStage(0, 9, 0, false), 2);
        check.due("setStage(0, 1)", x.setStage(0, 1, 5, false), 3);
        check.due("setStage(0, 9)", x.setStage(0, 9, 5, false), 1);
        check.due("setStage(0, 9) again", x.setStage(0, 9, 5, false), 9);
        check.due("setStage(0, 6)", x.setStage(0, 6, 0, true), 9);
        check.due("setStage(1, 6)", x.setStage(1, 6, 0, true), 4);
        x.undo();
        x.undo();
        check.due("setStage(0, 2) after undo()", x.setStage(0, 2, 0, true), 9);
    }

    private static void noSuchStage(Check check) {
        check.numbers(Run::new, "setStage", 1, (x, i) -> x.setStage(i, 1, 0, false));
        check.numbers(() -> Run.road("1;1;"), "setStage", 2, (x, i) -> x.setStage(i, 1, 0, false));
        check.numbers(() -> Run.road("1;1;1;1;1;1;1;"), "setStage", 7, (x, i) -> x.setStage(i, 1, 0, false));
        check.badIndex(new Run(), "setStage(1, 0, 6)", x -> x.setStage(1, 0, 6, false));
    }

    private static void outOfRange(Check check) {
        check.range(Run::new, "setStage, hours", 1, 9, (x, v) -> x.setStage(0, v, 0, false));
        check.range(Run::new, "setStage, hill", -5, 5, (x, v) -> x.setStage(0, 1, v, false));
        check.badArgument(new Run(), "setStage(0, 0, 6)", x -> x.setStage(0, 0, 6, true));
        check.badArgument(new Run(), "setStage(0, 10, -6)", x -> x.setStage(0, 10, -6, true));
    }
}
