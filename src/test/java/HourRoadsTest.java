/** An hour's part 2: roads. */
public final class HourRoadsTest {
    public static void main(String[] args) {
        Check check = new Check("HourRoadsTest");
        comes(check);
        tiresByTheStageAsItIsThen(check);
        atMostHundred(check);
        towardInnZero(check);
        lettersLieOrAreDelivered(check);
        blockedAndShutBehindIt(check);
        check.end();
    }

    private static void team(Check check, PostRoad x, int team, int... want) {
        for (int what = 0; what < want.length; what++) {
            check.due("team(" + team + ", " + what + ")", x.team(team, what), want[what]);
        }
    }

    private static void comes(Check check) {
        PostRoad x = Check.road("3+2;");
        x.addTeam(0, 0);
        x.give(0, 1, false);
        x.pass(1);
        team(check, x, 0, 0, 0, 1, 3, 0, 0, 0, 0, 0, 0);
        x.pass(1);
        team(check, x, 0, 0, 0, 1, 2, 0, 0, 0, 0, 0, 0);
        x.pass(1);
        team(check, x, 0, 0, 0, 1, 1, 0, 0, 0, 0, 0, 0);
        check.due("pass(1)", x.pass(1), 1);
        team(check, x, 0, 0, 23, 1, 0, -1, 0, 1, 23, 0, 0);
    }

    private static void tiresByTheStageAsItIsThen(Check check) {
        PostRoad x = Check.road("2;");
        x.addTeam(0, 0);
        x.give(0, 1, false);
        x.pass(1);
        x.setStage(0, 9, 1, false);
        x.pass(1);
        check.due("team(0, 3), the hours are those it set out with", x.team(0, 3), 1);
        x.pass(1);
        team(check, x, 0, 0, 49, 1, 0, -1, 0, 1, 49, 0, 0);
    }

    private static void atMostHundred(Check check) {
        PostRoad x = Check.road("1;");
        x.setInn(0, 2, 0, false);
        x.addTeam(0, 96);
        x.give(0, 1, false);
        x.pass(1);
        team(check, x, 0, 0, 95, 1, 1, 0);
        x.setStage(0, 2, -1, false);
        x.pass(1);
        team(check, x, 0, 0, 100, 1, 0, -1, 0, 1, 6, 0, 0);
        PostRoad y = Check.road("1;");
        y.addTeam(0, 60);
        y.give(0, 1, false);
        y.pass(1);
        y.setStage(0, 9, 5, false);
        y.pass(1);
        team(check, y, 0, 0, 100, 1, 0, -1, 0, 1, 65, 0, 1);
    }

    private static void towardInnZero(Check check) {
        PostRoad x = Check.road("3+2;3-2;3-5;");
        x.addTeam(3, 0);
        x.addTeam(2, 0);
        x.addTeam(1, 0);
        x.give(3, 2, false);
        x.give(2, 1, false);
        x.give(1, 0, false);
        x.pass(4);
        check.due("value(4)", x.value(4), 3);
        check.due("team(0, 7)", x.team(0, 7), 35);
        check.due("team(1, 7)", x.team(1, 7), 23);
        check.due("team(2, 7)", x.team(2, 7), 7);
    }

    private static void lettersLieOrAreDelivered(Check check) {
        PostRoad x = Check.road("1;1;");
        x.addTeam(0, 0);
        x.give(0, 2, false);
        x.give(0, 1, true);
        x.setInn(2, 0, 0, false);
        x.pass(1);
        x.addTeam(0, 0);
        x.pass(1);
        check.due("letter(1, 6)", x.letter(1, 6), 2);
        check.due("letter(1, 4)", x.letter(1, 4), 1);
        check.due("letter(1, 5)", x.letter(1, 5), -1);
        check.due("letter(0, 5)", x.letter(0, 5), 1);
        check.due("pass(1)", x.pass(1), 0);
        check.due("letter(0, 4)", x.letter(0, 4), 1);
        check.due("letter(0, 5)", x.letter(0, 5), -1);
        check.due("letter(0, 6)", x.letter(0, 6), -1);
        check.due("inn(1, 5)", x.inn(1, 5), 1);
    }

    private static void blockedAndShutBehindIt(Check check) {
        PostRoad x = new PostRoad();
        x.addTeam(0, 0);
        x.give(0, 1, false);
        x.pass(1);
        x.setStage(0, 2, 0, true);
        x.setInn(0, 0, 0, true);
        x.setInn(1, 0, 0, true);
        check.due("pass(2) of a team that is on its way", x.pass(2), 1);
        check.due("inn(1, 3)", x.inn(1, 3), 1);
        check.due("inn(1, 6)", x.inn(1, 6), 0);
    }
}
