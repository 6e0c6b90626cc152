/** An hour's part 2: roads. */
public final class HourRoadsTest {
    public static void main(String[] args) {
        Check check = new Check("An hour, 2");
        check.sentence("Roads: for each team on a stage, in ascending order: its hours left fall by 1.", HourRoadsTest::hoursFall);
        check.sentence("If they are 0 then, it has come to the inn ahead of it: it stands there", HourRoadsTest::comes);
        check.sentence("its tiredness grows by the effort of the stage in its direction", HourRoadsTest::tires);
        check.sentence("as the stage is then", HourRoadsTest::asItIsThen);
        check.sentence("not above 100", HourRoadsTest::atMostHundred);
        check.sentence("(a team that walks back does not tire)", HourRoadsTest::walksWithoutTiring);
        check.sentence("and the letter that it had lies at this inn, or is delivered.", HourRoadsTest::letterLiesOrIsDelivered);
        check.end();
    }

    private static Run running(String stage) {
        Run x = Run.road(stage);
        x.addTeam(0, 0);
        x.give(0, 1, false);
        x.pass(1);
        return x;
    }

    /** Ten teams on stages of other hours; those of the first stages come while the others run on. */
    private static void hoursFall(Check check) {
        Run x = Run.road("1;2;5;9;");
        for (int i = 0; i < 10; i++) {
            x.addTeam(i % 4, 0);
        }
        for (int i = 0; i < 10; i++) {
            x.give(i % 4, i % 4 + 1, false);
        }
        for (int inn = 1; inn <= 4; inn++) {
            x.setInn(inn, 6, 100, false);
        }
        x.pass(1);
        int[] hours = {1, 2, 5, 9};
        for (int passed = 0; passed < 10; passed++) {
            for (int i = 0; i < 8; i++) {
                check.due("letter(" + i + ", 6) after " + passed, x.letter(i, 6), passed < hours[i % 4] ? -1 : hours[i % 4] + 1);
            }
            for (int i = 2; i < 4; i++) {
                check.due("team(" + i + ", 3) after " + passed, x.team(i, 3), Math.max(0, hours[i] - passed));
            }
            x.pass(1);
        }
    }

    private static void comes(Check check) {
        for (int hours = 1; hours <= 9; hours++) {
            Run x = running(hours + ";");
            if (hours > 1) {
                x.pass(hours - 1);
            }
            check.team(x, 0, 0, 0, 1, 1, 0, 0, 0, 0, 0, 0);
            check.inn(x, 1, 2, 100, 0, 0, 1, 0, 1);
            check.due("stage(0, 5)", x.stage(0, 5), 1);
            check.due("pass(1)", x.pass(1), 1);
            check.team(x, 0, 0, 5 * hours, 1, 0, -1, 0, 1, 5 * hours, 0, 0);
            check.inn(x, 1, 2, 100, 0, 1, 0, 0, 1);
            check.due("stage(0, 5)", x.stage(0, 5), 0);
        }
        comesWhateverIsBehind(check);
    }

    /** A blocked stage, shut inns and beds that are gone hold none that is on its way. */
    private static void comesWhateverIsBehind(Check check) {
        Run x = running("2;");
        x.setStage(0, 2, 0, true);
        x.setInn(0, 0, 0, true);
        x.setInn(1, 0, 0, true);
        check.due("pass(2)", x.pass(2), 1);
        check.inn(x, 1, 0, 0, 1, 1, 0, 0, 0);
    }

    private static void tires(Check check) {
        Run x = Run.road("3+2;3-2;3-5;");
        for (int i = 0; i < 3; i++) {
            x.addTeam(3 - i, 0);
            x.give(3 - i, 2 - i, false);
        }
        x.pass(4);
        int[] back = {35, 23, 7};
        for (int i = 0; i < 3; i++) {
            check.team(x, i, 3 - i, back[i], 2 - i, 0, -1, 0, 1, back[i], 0, 0);
        }
        Run y = Run.road("3+2;3-2;3-5;");
        for (int i = 0; i < 3; i++) {
            y.addTeam(i, 0);
            y.give(i, i + 1, false);
        }
        y.pass(4);
        int[] away = {23, 7, 5};
        for (int i = 0; i < 3; i++) {
            check.team(y, i, i, away[i], i + 1, 0, -1, 0, 1, away[i], 0, 0);
        }
    }

    /** The hours left are those with which it set out; the effort is that of the hour in which it comes. */
    private static void asItIsThen(Check check) {
        Run x = running("2;");
        x.setStage(0, 9, 1, false);
        x.pass(1);
        check.due("team(0, 3)", x.team(0, 3), 1);
        x.pass(1);
        check.team(x, 0, 0, 49, 1, 0, -1, 0, 1, 49, 0, 0);
        Run y = running("2;");
        y.setStage(0, 9, 1, false);
        y.pass(1);
        y.setStage(0, 1, -5, true);
        y.pass(1);
        check.team(y, 0, 0, 5, 1, 0, -1, 0, 1, 5, 0, 0);
    }

    /** It set out with 94; 5, 6, 7 and 65 are added. */
    private static void atMostHundred(Check check) {
        int[][] cases = {{1, 0, 5, 99}, {2, -1, 6, 100}, {3, -2, 7, 100}, {9, 5, 65, 100}};
        for (int[] c : cases) {
            Run x = Run.road("1;");
            x.setInn(0, 2, 0, false);
            x.addTeam(0, 95);
            x.give(0, 1, false);
            x.pass(1);
            check.team(x, 0, 0, 94, 1, 1, 0);
            x.setStage(0, c[0], c[1], false);
            x.pass(1);
            check.team(x, 0, 0, c[3], 1, 0, -1, 0, 1, c[2], 0, 0);
        }
        Run atHundred = Run.road("1;");
        atHundred.setInn(0, 2, 0, false);
        atHundred.addTeam(0, 96);
        atHundred.give(0, 1, false);
        atHundred.pass(2);
        check.team(atHundred, 0, 0, 100, 1, 0, -1, 0, 1, 5, 0, 0);
    }

    private static void walksWithoutTiring(Check check) {
        Run x = running("1;");
        x.pass(1);
        x.setStage(0, 1, -5, false);
        x.pass(1);
        check.team(x, 0, 0, 0, 0, 2, -1, 1, 1, 5, 0, 1);
        x.setStage(0, 9, -5, false);
        x.pass(1);
        check.team(x, 0, 0, 0, 0, 1, -1, 1, 1, 5, 0, 1);
        x.pass(1);
        check.team(x, 0, 0, 0, 0, 0, -1, 0, 1, 5, 1, 1);
    }

    private static void letterLiesOrIsDelivered(Check check) {
        Run x = Run.road("1;1;");
        x.setInn(1, 2, 0, false);
        x.setInn(2, 0, 0, false);
        x.addTeam(0, 0);
        x.addTeam(0, 0);
        x.give(0, 2, false);
        x.give(0, 1, true);
        x.pass(1);
        check.letter(x, 0, 0, 2, 0, 0, 1, 1, -1, 1);
        check.letter(x, 1, 0, 1, 1, 0, 1, 0, -1, 1);
        check.due("pass(1)", x.pass(1), 1);
        check.letter(x, 0, 0, 2, 0, 0, 1, -1, -1, 1);
        check.letter(x, 1, 0, 1, 1, 0, 1, -1, 2, 1);
        check.inn(x, 1, 2, 0, 0, 2, 0, 1, 0);
        check.due("team(0, 4)", x.team(0, 4), -1);
        check.due("team(1, 4)", x.team(1, 4), -1);
    }
}
