/** The term "Teams". */
public final class TermsTeamsTest {
    public static void main(String[] args) {
        Check check = new Check("Teams");
        check.sentence("There are at most 10 teams", TermsTeamsTest::atMostTen);
        check.sentence("numbered from 0", TermsTeamsTest::fromZero);
        check.sentence("A team has a home inn", TermsTeamsTest::home);
        check.sentence("a tiredness from 0 to 100", TermsTeamsTest::tiredness);
        check.sentence("and stands at an inn, or is on a stage", TermsTeamsTest::standsOrIsOnAStage);
        check.sentence("A team at an inn, and one that is on a stage to it, take a bed of it.", TermsTeamsTest::bed);
        check.sentence("The effort of a stage in a direction is 5 * hours + 4 * hill in the direction from inn k to "
            + "inn k + 1, and 5 * hours - 4 * hill back", TermsTeamsTest::effort);
        check.sentence("but at least 5", TermsTeamsTest::leastEffort);
        check.end();
    }

    private static Run withTeams(int count) {
        Run x = Run.road("1;1;");
        for (int i = 0; i < count; i++) {
            x.addTeam(i % 3, 10 * i);
        }
        return x;
    }

    private static void atMostTen(Check check) {
        for (int count = 0; count <= 9; count++) {
            check.due("addTeam with " + count + " teams", withTeams(count).addTeam(0, 0), count);
        }
        Run full = withTeams(10);
        check.due("value(1)", full.value(1), 10);
        check.badState(full, "addTeam with 10 teams", x -> x.addTeam(0, 0));
        check.due("value(1)", full.value(1), 10);
        full.undo();
        check.due("addTeam after undo()", full.addTeam(0, 0), 9);
        check.badState(full, "addTeam with 10 teams again", x -> x.addTeam(0, 0));
    }

    private static void fromZero(Check check) {
        for (int count : new int[] {0, 1, 9, 10}) {
            check.numbers(() -> withTeams(count), "team of " + count, count, (x, i) -> x.team(i, 0));
        }
        Run x = withTeams(10);
        for (int i = 0; i < 10; i++) {
            check.team(x, i, i % 3, 10 * i);
        }
    }

    private static void home(Check check) {
        Run x = Run.road("1;1;");
        x.addTeam(1, 0);
        x.addTeam(2, 0);
        x.give(1, 0, false);
        x.give(2, 1, false);
        for (int hour = 0; hour < 12; hour++) {
            check.due("team(0, 0) at the hour " + hour, x.team(0, 0), 1);
            check.due("team(1, 0) at the hour " + hour, x.team(1, 0), 2);
            x.pass(1);
        }
        check.due("team(0, 8)", x.team(0, 8), 1);
    }

    private static void tiredness(Check check) {
        check.range(Run::new, "addTeam, tiredness", 0, 100, (x, v) -> x.addTeam(0, v));
        for (int tiredness = 0; tiredness <= 100; tiredness++) {
            Run x = new Run();
            x.addTeam(1, tiredness);
            check.due("team(0, 1)", x.team(0, 1), tiredness);
        }
    }

    /** A stage of three hours there with a letter, and of six back. */
    private static void standsOrIsOnAStage(Check check) {
        Run x = Run.road("3;");
        x.addTeam(0, 0);
        x.give(0, 1, false);
        int standing = 0;
        for (int hour = 0; hour < 16; hour++) {
            int stands = x.inn(0, 3) + x.inn(1, 3);
            int runs = x.stage(0, 5);
            check.due("teams at inns and on stages", stands + runs, 1);
            check.due("teams on stages to inns", x.inn(0, 4) + x.inn(1, 4), runs);
            check.holds("hours left are above 0 on a stage alone", x.team(0, 3) > 0 == (runs == 1));
            standing += stands;
            x.pass(1);
        }
        check.due("hours in which it stood", standing, 16 - 3 - 6);
    }

    private static void bed(Check check) {
        Run x = Run.road("2;2;");
        x.setInn(1, 3, 100, false);
        check.due("inn(1, 6) without teams", x.inn(1, 6), 3);
        x.addTeam(1, 0);
        check.due("inn(1, 6) with one that stands", x.inn(1, 6), 2);
        x.addTeam(0, 0);
        x.addTeam(2, 0);
        x.give(0, 1, false);
        x.pass(1);
        check.due("inn(1, 6) with one on the way from below", x.inn(1, 6), 1);
        x.give(2, 1, false);
        x.pass(1);
        check.due("inn(1, 6) with one on the way from above", x.inn(1, 6), 0);
        check.due("inn(0, 6) behind one that went", x.inn(0, 6), 2);
        x.setInn(1, 3, 0, false);
        x.pass(10);
        check.due("inn(1, 6) with three that stand", x.inn(1, 6), 0);
        x.pass(1);
        check.due("inn(1, 6) behind one that walks", x.inn(1, 6), 1);
        check.due("inn(0, 6) with one that walks back to it", x.inn(0, 6), 1);
    }

    private static void effort(Check check) {
        for (int hours = 1; hours <= 9; hours++) {
            for (int hill = -5; hill <= 5; hill++) {
                Run x = new Run();
                x.setStage(0, hours, hill, false);
                check.due("stage(0, 3) of " + hours + ", " + hill, x.stage(0, 3), Math.max(5, 5 * hours + 4 * hill));
                check.due("stage(0, 4) of " + hours + ", " + hill, x.stage(0, 4), Math.max(5, 5 * hours - 4 * hill));
            }
        }
        check.stage(Run.road("9+5;"), 0, 9, 5, 0, 65, 25);
        check.stage(Run.road("9-5;"), 0, 9, -5, 0, 25, 65);
    }

    /** By hours and hill: below 0, 0, 1, 2, 3, just 5, 6, 7. */
    private static void leastEffort(Check check) {
        int[][] cases = {{1, -5, 5}, {4, -5, 5}, {1, -1, 5}, {2, -2, 5}, {3, -3, 5}, {5, -5, 5}, {1, 0, 5}, {2, -1, 6},
            {3, -2, 7}};
        for (int[] c : cases) {
            Run x = new Run();
            x.setStage(0, c[0], c[1], false);
            check.due("stage(0, 3) of " + c[0] + ", " + c[1], x.stage(0, 3), c[2]);
            x.setStage(0, c[0], -c[1], false);
            check.due("stage(0, 4) of " + c[0] + ", " + -c[1], x.stage(0, 4), c[2]);
            x.addTeam(1, 0);
            x.give(1, 0, false);
            x.pass(1 + c[0]);
            check.due("team(0, 1) after " + c[0] + ", " + -c[1], x.team(0, 1), c[2]);
            check.due("team(0, 7) after " + c[0] + ", " + -c[1], x.team(0, 7), c[2]);
        }
    }
}
