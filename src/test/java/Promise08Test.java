/** Promise 8: stage. */
public final class Promise08Test {
    public static void main(String[] args) {
        Check check = new Check("Promise08Test");
        PostRoad x = Check.road("2+3;9-5;1+5;1-5;3;");
        int[][] want = {{2, 3, 0, 22, 5, 0}, {9, -5, 0, 25, 65, 0}, {1, 5, 0, 25, 5, 0}, {1, -5, 0, 5, 25, 0},
            {3, 0, 0, 15, 15, 0}};
        for (int stage = 0; stage < 5; stage++) {
            for (int what = 0; what <= 5; what++) {
                check.due("stage(" + stage + ", " + what + ")", x.stage(stage, what), want[stage][what]);
            }
        }
        x.setStage(0, 2, 1, true);
        check.due("stage(0, 2)", x.stage(0, 2), 1);
        check.due("stage(0, 3)", x.stage(0, 3), 14);
        check.due("stage(0, 4)", x.stage(0, 4), 6);

        x.setInn(4, 6, 0, false);
        x.setInn(5, 6, 0, false);
        x.addTeam(4, 0);
        x.addTeam(5, 0);
        x.addTeam(5, 0);
        x.addTeam(1, 0);
        x.give(4, 5, false);
        x.give(5, 4, false);
        x.give(5, 4, false);
        x.give(1, 2, false);
        x.pass(1);
        int[] teams = {0, 1, 0, 0, 3};
        for (int stage = 0; stage < 5; stage++) {
            check.due("stage(" + stage + ", 5)", x.stage(stage, 5), teams[stage]);
        }
        check.badIndex(x, "stage(-1, 0)", () -> x.stage(-1, 0));
        check.badIndex(x, "stage(5, 0)", () -> x.stage(5, 0));
        check.badIndex(x, "stage(5, 6)", () -> x.stage(5, 6));
        check.badArgument(x, "stage(0, -1)", () -> x.stage(0, -1));
        check.badArgument(x, "stage(0, 6)", () -> x.stage(0, 6));
        check.end();
    }
}
