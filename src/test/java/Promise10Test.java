/** Promise 10: team; HourRestTest, HourRoadsTest and HourWalksTest ask more of its values. */
public final class Promise10Test {
    public static void main(String[] args) {
        Check check = new Check("Promise10Test");
        PostRoad x = Check.road("2+1;1;");
        x.addTeam(1, 20);
        x.addTeam(0, 3);
        x.give(2, 1, false);
        x.give(0, 2, false);
        team(check, x, 0, 1, 20, 1, 0, -1, 0, 0, 0, 0, 0);
        team(check, x, 1, 0, 3, 0, 0, -1, 0, 0, 0, 0, 0);
        x.pass(1);
        team(check, x, 0, 1, 14, 1, 0, -1, 0, 0, 0, 0, 1);
        team(check, x, 1, 0, 0, 1, 2, 1, 0, 0, 0, 0, 1);
        x.pass(2);
        team(check, x, 0, 1, 2, 2, 1, 1, 0, 0, 0, 0, 3);
        team(check, x, 1, 0, 14, 1, 0, -1, 0, 1, 14, 0, 1);
        x.pass(1);
        team(check, x, 0, 1, 7, 1, 1, 0, 0, 1, 5, 0, 3);
        x.pass(1);
        team(check, x, 0, 1, 12, 1, 0, -1, 0, 2, 10, 0, 3);
        x.pass(4);
        team(check, x, 0, 1, 0, 1, 0, -1, 0, 2, 10, 0, 5);
        team(check, x, 1, 0, 0, 0, 1, -1, 1, 1, 14, 0, 4);
        x.pass(1);
        team(check, x, 1, 0, 0, 0, 0, -1, 0, 1, 14, 1, 4);

        check.badIndex(x, "team(-1, 0)", () -> x.team(-1, 0));
        check.badIndex(x, "team(2, 0)", () -> x.team(2, 0));
        check.badIndex(x, "team(2, 10)", () -> x.team(2, 10));
        check.badArgument(x, "team(0, -1)", () -> x.team(0, -1));
        check.badArgument(x, "team(0, 10)", () -> x.team(0, 10));
        check.end();
    }

    private static void team(Check check, PostRoad x, int team, int... want) {
        for (int what = 0; what < want.length; what++) {
            check.due("hour " + x.value(3) + ": team(" + team + ", " + what + ")", x.team(team, what), want[what]);
        }
    }
}
