/** Promise 2: setStage. */
public final class Promise02Test {
    public static void main(String[] args) {
        Check check = new Check("Promise02Test");
        PostRoad x = Check.road("3+1;4;");
        check.due("setStage(0, 9, 5, true)", x.setStage(0, 9, 5, true), 3);
        holds(check, x, 0, 9, 5, 1);
        holds(check, x, 1, 4, 0, 0);
        check.due("setStage(0, 1, -5, false)", x.setStage(0, 1, -5, false), 9);
        holds(check, x, 0, 1, -5, 0);
        check.due("setStage(1, 4, 0, false)", x.setStage(1, 4, 0, false), 4);
        holds(check, x, 1, 4, 0, 0);

        check.badIndex(x, "setStage(-1, 1, 0, false)", () -> x.setStage(-1, 1, 0, false));
        check.badIndex(x, "setStage(2, 1, 0, false)", () -> x.setStage(2, 1, 0, false));
        check.badIndex(x, "setStage(2, 0, 6, false)", () -> x.setStage(2, 0, 6, false));
        check.badIndex(x, "setStage of the least number", () -> x.setStage(Integer.MIN_VALUE, 0, 0, false));
        check.badIndex(x, "setStage of the most number", () -> x.setStage(Integer.MAX_VALUE, 0, 0, false));
        check.badArgument(x, "setStage(0, 0, 0, false)", () -> x.setStage(0, 0, 0, false));
        check.badArgument(x, "setStage(0, 10, 0, false)", () -> x.setStage(0, 10, 0, false));
        check.badArgument(x, "setStage(0, 1, -6, true)", () -> x.setStage(0, 1, -6, true));
        check.badArgument(x, "setStage(0, 1, 6, true)", () -> x.setStage(0, 1, 6, true));

        check.undoable(x, "setStage(1, 7, 2, true)", () -> x.setStage(1, 7, 2, true));
        check.undoable(x, "setStage that changes nothing", () -> x.setStage(1, 4, 0, false));
        check.end();
    }

    private static void holds(Check check, PostRoad x, int stage, int hours, int hill, int blocked) {
        check.due("stage(" + stage + ", 0)", x.stage(stage, 0), hours);
        check.due("stage(" + stage + ", 1)", x.stage(stage, 1), hill);
        check.due("stage(" + stage + ", 2)", x.stage(stage, 2), blocked);
    }
}
