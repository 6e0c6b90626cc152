/** The term "Beds". */
public final class TermsBedsTest {
    public static void main(String[] args) {
        Check check = new Check("Beds");
        check.sentence("Teams that are added", TermsBedsTest::teamsAdded);
        check.sentence("and beds that are taken away", TermsBedsTest::bedsTakenAway);
        check.sentence("may leave an inn with more teams than beds", TermsBedsTest::moreTeamsThanBeds);
        check.sentence("then it has no free bed.", TermsBedsTest::noFreeBed);
        check.end();
    }

    /** One fewer than the beds, as many, one more, and on to ten. */
    private static void teamsAdded(Check check) {
        Run x = new Run();
        for (int teams = 0; teams <= 10; teams++) {
            check.inn(x, 1, 2, 100, 0, teams, 0, 0, teams == 0 ? 2 : teams == 1 ? 1 : 0);
            if (teams < 10) {
                check.due("addTeam(1, 0)", x.addTeam(1, 0), teams);
            }
        }
        check.inn(x, 0, 2, 100, 0, 0, 0, 0, 2);
    }

    private static void bedsTakenAway(Check check) {
        Run x = new Run();
        for (int i = 0; i < 3; i++) {
            x.addTeam(1, 0);
        }
        for (int beds = 6; beds >= 0; beds--) {
            x.setInn(1, beds, 100, false);
            check.inn(x, 1, beds, 100, 0, 3, 0, 0, Math.max(0, beds - 3));
        }
        Run onTheWay = Run.road("3;");
        onTheWay.addTeam(0, 0);
        onTheWay.addTeam(1, 0);
        onTheWay.give(0, 1, false);
        onTheWay.pass(1);
        for (int beds = 6; beds >= 0; beds--) {
            onTheWay.setInn(1, beds, 100, false);
            check.inn(onTheWay, 1, beds, 100, 0, 1, 1, 0, Math.max(0, beds - 2));
        }
    }

    /** They stay, rest, and go with letters as ever. */
    private static void moreTeamsThanBeds(Check check) {
        Run x = new Run();
        for (int i = 0; i < 4; i++) {
            x.addTeam(0, 10);
        }
        x.setInn(0, 0, 100, false);
        x.give(0, 1, false);
        x.pass(1);
        check.inn(x, 0, 0, 96, 0, 3, 0, 0, 0);
        check.team(x, 0, 0, 4, 1, 2, 0);
        for (int i = 1; i < 4; i++) {
            check.team(x, i, 0, 4, 0, 0, -1, 0);
        }
        x.pass(200);
        check.inn(x, 0, 0, 93, 0, 3, 0, 0, 0);
    }

    /** Three teams, three or two beds: no letter comes, and none walks back; with four beds the letter comes. */
    private static void noFreeBed(Check check) {
        for (int beds = 0; beds <= 4; beds++) {
            Run x = new Run();
            for (int i = 0; i < 3; i++) {
                x.addTeam(1, 0);
            }
            x.addTeam(0, 0);
            x.give(0, 1, false);
            x.setInn(1, beds, 100, false);
            check.due("why(0) with " + beds + " beds", x.why(0), beds < 4 ? 5 : 0);
            x.pass(1);
            check.due("letter(0, 5) with " + beds + " beds", x.letter(0, 5), beds < 4 ? -1 : 3);
        }
        for (int beds = 0; beds <= 4; beds++) {
            Run x = Run.road("1;");
            x.addTeam(0, 0);
            x.give(0, 1, false);
            x.pass(2);
            for (int i = 0; i < 3; i++) {
                x.addTeam(0, 0);
            }
            x.setInn(0, beds, 100, false);
            x.pass(1);
            check.due("team(0, 5) with " + beds + " beds", x.team(0, 5), beds < 4 ? 0 : 1);
        }
    }
}
