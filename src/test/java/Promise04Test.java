/** Promise 4: addTeam. */
public final class Promise04Test {
    public static void main(String[] args) {
        Check check = new Check("Promise04Test");
        PostRoad x = Check.road("1;1;");
        check.due("addTeam(2, 100)", x.addTeam(2, 100), 0);
        check.due("addTeam(0, 0)", x.addTeam(0, 0), 1);
        int[][] want = {{2, 100, 2, 0, -1, 0, 0, 0, 0, 0}, {0, 0, 0, 0, -1, 0, 0, 0, 0, 0}};
        for (int team = 0; team < 2; team++) {
            for (int what = 0; what <= 9; what++) {
                check.due("team(" + team + ", " + what + ")", x.team(team, what), want[team][what]);
            }
        }
        check.badIndex(x, "addTeam(-1, 0)", () -> x.addTeam(-1, 0));
        check.badIndex(x, "addTeam(3, 0)", () -> x.addTeam(3, 0));
        check.badIndex(x, "addTeam(3, 101)", () -> x.addTeam(3, 101));
        check.badArgument(x, "addTeam(0, -1)", () -> x.addTeam(0, -1));
        check.badArgument(x, "addTeam(0, 101)", () -> x.addTeam(0, 101));
        check.undoable(x, "addTeam(1, 30)", () -> x.addTeam(1, 30));
        moreTeamsThanBeds(check, x);
        aRowUsedAgainIsFresh(check);
        check.end();
    }

    private static void moreTeamsThanBeds(Check check, PostRoad x) {
        for (int i = 2; i < 10; i++) {
            check.due("addTeam(1, " + i + ")", x.addTeam(1, i), i);
        }
        check.due("inn(1, 3) with eight teams at two beds", x.inn(1, 3), 8);
        check.due("inn(1, 6) with eight teams at two beds", x.inn(1, 6), 0);
        check.badState(x, "addTeam(0, 0) with ten teams", () -> x.addTeam(0, 0));
        check.badArgument(x, "addTeam(0, 101) with ten teams", () -> x.addTeam(0, 101));
        check.badIndex(x, "addTeam(3, 0) with ten teams", () -> x.addTeam(3, 0));
    }

    private static void aRowUsedAgainIsFresh(Check check) {
        PostRoad x = Check.road("1;1;");
        x.addTeam(0, 20);
        x.give(0, 2, false);
        x.pass(3);
        x.undo();
        x.undo();
        x.undo();
        x.addTeam(1, 5);
        int[] want = {1, 5, 1, 0, -1, 0, 0, 0, 0, 0};
        for (int what = 0; what <= 9; what++) {
            check.due("team(0, " + what + ") after an undone one", x.team(0, what), want[what]);
        }
        check.due("stage(0, 5)", x.stage(0, 5), 0);
    }
}
