/** An hour's part 4: walking back. */
public final class HourWalksTest {
    public static void main(String[] args) {
        Check check = new Check("HourWalksTest");
        walks(check);
        staysForALetter(check);
        hindered(check);
        oneBed(check);
        stageByStage(check);
        letterTakesTheTeamFirst(check);
        check.end();
    }

    /** A team of inn 0 that has just come to inn 1 over one flat hour, with a tiredness of 5. */
    private static PostRoad away() {
        PostRoad x = Check.road("1;1;");
        x.addTeam(0, 0);
        x.give(0, 1, false);
        x.pass(2);
        return x;
    }

    private static void team(Check check, PostRoad x, int team, int... want) {
        for (int what = 0; what < want.length; what++) {
            check.due("team(" + team + ", " + what + ")", x.team(team, what), want[what]);
        }
    }

    private static void walks(Check check) {
        PostRoad x = away();
        team(check, x, 0, 0, 5, 1, 0, -1, 0, 1, 5, 0, 0);
        x.setStage(0, 4, 5, false);
        x.setInn(0, 2, 100, true);
        x.setInn(1, 2, 100, true);
        x.pass(1);
        team(check, x, 0, 0, 0, 0, 8, -1, 1, 1, 5, 0, 1);
        check.due("stage(0, 5)", x.stage(0, 5), 1);
        check.due("inn(0, 4)", x.inn(0, 4), 1);
        check.due("inn(1, 6)", x.inn(1, 6), 2);
        x.setStage(0, 1, 5, true);
        x.pass(7);
        team(check, x, 0, 0, 0, 0, 1, -1, 1, 1, 5, 0, 1);
        x.pass(1);
        team(check, x, 0, 0, 0, 0, 0, -1, 0, 1, 5, 1, 1);
        x.pass(9);
        team(check, x, 0, 0, 0, 0, 0, -1, 0, 1, 5, 1, 1);
    }

    private static void staysForALetter(Check check) {
        PostRoad x = away();
        x.setInn(2, 2, 0, true);
        x.give(1, 2, false);
        x.pass(5);
        team(check, x, 0, 0, 0, 1, 0, -1, 0);
        x.setInn(2, 2, 0, false);
        x.pass(1);
        team(check, x, 0, 0, 0, 2, 1, 1, 0);
        PostRoad y = away();
        y.give(2, 0, false);
        y.pass(1);
        team(check, y, 0, 0, 0, 0, 2, -1, 1);
    }

    private static void hindered(Check check) {
        PostRoad x = away();
        x.setStage(0, 1, 0, true);
        x.pass(3);
        team(check, x, 0, 0, 0, 1, 0, -1, 0);
        x.setStage(0, 1, 0, false);
        x.setInn(0, 0, 0, false);
        x.pass(3);
        team(check, x, 0, 0, 0, 1, 0, -1, 0);
        x.setInn(0, 1, 0, false);
        x.pass(1);
        team(check, x, 0, 0, 0, 0, 2, -1, 1);
        PostRoad y = away();
        y.setInn(1, 2, 0, false);
        for (int tiredness = 4; tiredness > 0; tiredness--) {
            y.pass(1);
            team(check, y, 0, 0, tiredness, 1, 0, -1, 0);
        }
        y.pass(1);
        team(check, y, 0, 0, 0, 0, 2, -1, 1);
    }

    private static void oneBed(Check check) {
        PostRoad x = Check.road("1;");
        x.addTeam(0, 0);
        x.addTeam(0, 0);
        x.give(0, 1, false);
        x.give(0, 1, false);
        x.pass(2);
        x.setInn(0, 1, 0, false);
        x.pass(1);
        team(check, x, 0, 0, 0, 0, 2, -1, 1);
        team(check, x, 1, 0, 0, 1, 0, -1, 0);
        x.pass(9);
        team(check, x, 1, 0, 0, 1, 0, -1, 0);
        x.setInn(0, 2, 0, false);
        x.pass(1);
        team(check, x, 1, 0, 0, 0, 2, -1, 1);
    }

    /** From inn 2 to inn 0: a stage, a stand of no hour at inn 1, the next stage; then home, from below too. */
    private static void stageByStage(Check check) {
        PostRoad x = Check.road("1;2;");
        x.addTeam(0, 0);
        x.give(0, 2, false);
        x.pass(4);
        team(check, x, 0, 0, 15, 2, 0, -1, 0, 2, 15, 0, 0);
        x.pass(3);
        team(check, x, 0, 0, 0, 1, 4, -1, 1, 2, 15, 0, 3);
        x.pass(4);
        team(check, x, 0, 0, 0, 0, 2, -1, 1, 2, 15, 1, 3);
        x.pass(2);
        team(check, x, 0, 0, 0, 0, 0, -1, 0, 2, 15, 2, 3);
        PostRoad y = Check.road("1;");
        y.addTeam(1, 0);
        y.give(1, 0, false);
        y.pass(3);
        team(check, y, 0, 1, 0, 1, 2, -1, 1);
        y.pass(2);
        team(check, y, 0, 1, 0, 1, 0, -1, 0, 1, 5, 1, 1);
    }

    private static void letterTakesTheTeamFirst(Check check) {
        PostRoad x = away();
        x.give(1, 2, false);
        x.pass(1);
        team(check, x, 0, 0, 0, 2, 1, 1, 0);
    }
}
