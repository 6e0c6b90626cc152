/** An hour's part 4: walking back. */
public final class HourWalksTest {
    public static void main(String[] args) {
        Check check = new Check("An hour, 4");
        check.sentence("Walking back: for each team that stands at an inn that is not its home", HourWalksTest::notItsHome);
        check.sentence("in ascending order", HourWalksTest::ascending);
        check.sentence("if its tiredness is 0", HourWalksTest::rested);
        check.sentence("and no letter lies at this inn", HourWalksTest::noLetter);
        check.sentence("it walks back on the stage toward its home", HourWalksTest::towardHome);
        check.sentence("if that is not blocked", HourWalksTest::notBlocked);
        check.sentence("and the inn at its end has a free bed", HourWalksTest::freeBed);
        check.sentence("at once", HourWalksTest::atOnce);
        check.sentence("the hours left are twice the hours of the stage.", HourWalksTest::twiceTheHours);
        check.sentence("(Shut inns let teams walk.)", HourWalksTest::shutInns);
        check.end();
    }

    /** A team of inn 0 that has just come to inn 1 over one flat hour, with a tiredness of 5. */
    private static Run away() {
        Run x = Run.road("1;1;");
        x.addTeam(0, 0);
        x.give(0, 1, false);
        x.pass(2);
        return x;
    }

    private static void walks(Check check, Run x, int team, boolean want) {
        check.due("team(" + team + ", 5)", x.team(team, 5), want ? 1 : 0);
        check.holds("a team that walks has hours left", x.team(team, 3) > 0 == want);
    }

    private static void notItsHome(Check check) {
        Run x = away();
        x.addTeam(1, 0);
        x.pass(1);
        walks(check, x, 0, true);
        walks(check, x, 1, false);
        x.pass(2);
        walks(check, x, 0, false);
        check.team(x, 0, 0, 0, 0, 0, -1, 0, 1, 5, 1, 1);
        x.pass(50);
        check.team(x, 0, 0, 0, 0, 0, -1, 0, 1, 5, 1, 1);
        check.team(x, 1, 1, 0, 1, 0, -1, 0, 0, 0, 0, 0);
    }

    /** Two rested teams of inn 0 at inn 1 with one bed at home: the lower one walks, then the other when there is room. */
    private static void ascending(Check check) {
        Run x = Run.road("1;");
        x.addTeam(0, 0);
        x.addTeam(0, 0);
        x.give(0, 1, false);
        x.give(0, 1, false);
        x.pass(2);
        x.setInn(0, 1, 0, false);
        x.pass(1);
        walks(check, x, 0, true);
        walks(check, x, 1, false);
        x.pass(9);
        check.team(x, 0, 0, 0, 0, 0, -1, 0);
        check.team(x, 1, 0, 0, 1, 0, -1, 0);
        x.setInn(0, 2, 0, false);
        x.pass(1);
        walks(check, x, 1, true);
        theBedOfOneForTheNext(check);
    }

    /**
     * The team 0 leaves the only bed of inn 1 and the team 1 walks to it in the same hour. With the numbers the other
     * way round it has to wait for the next hour.
     */
    private static void theBedOfOneForTheNext(Check check) {
        for (int first = 0; first < 2; first++) {
            Run x = Run.road("1;1;");
            x.addTeam(first == 0 ? 0 : 1, 0);
            x.addTeam(first == 0 ? 1 : 0, 0);
            x.give(1, 2, true);
            x.give(0, 1, false);
            x.pass(2);
            check.due("value(4)", x.value(4), 2);
            x.setInn(1, 1, 100, false);
            x.pass(1);
            walks(check, x, first, true);
            walks(check, x, 1 - first, first == 0);
            x.pass(1);
            walks(check, x, 1 - first, true);
        }
    }

    private static void rested(Check check) {
        for (int fodder = 0; fodder <= 1; fodder++) {
            Run x = away();
            x.setInn(1, 2, fodder, false);
            int hours = fodder == 0 ? 5 : 1;
            for (int i = 1; i < hours; i++) {
                x.pass(1);
                walks(check, x, 0, false);
                check.due("team(0, 1)", x.team(0, 1), 5 - i);
            }
            x.pass(1);
            walks(check, x, 0, true);
            check.due("team(0, 1)", x.team(0, 1), 0);
        }
    }

    /** Not for one that lies at its inn, whichever way it goes; but for one at another inn, on a stage or delivered. */
    private static void noLetter(Check check) {
        for (int to = 0; to <= 2; to += 2) {
            Run x = away();
            x.setInn(to, 2, 0, true);
            x.give(1, to, false);
            x.pass(5);
            walks(check, x, 0, false);
            check.team(x, 0, 0, 0, 1, 0, -1, 0);
            x.setInn(to, 2, 0, false);
            x.pass(1);
            check.due("letter(1, 5)", x.letter(1, 5), 0);
            walksAfterTaking(check, to);
        }
        for (int from = 0; from <= 2; from += 2) {
            Run x = away();
            x.give(from, 1, false);
            x.pass(1);
            walks(check, x, 0, true);
        }
        whileOneIsOnTheWay(check);
    }

    private static void walksAfterTaking(Check check, int to) {
        Run x = away();
        x.setInn(to, 2, 0, true);
        x.give(1, to, false);
        x.pass(5);
        x.undo();
        x.undo();
        x.pass(1);
        walks(check, x, 0, true);
    }

    private static void whileOneIsOnTheWay(Check check) {
        Run x = Run.road("1;9;");
        x.addTeam(0, 0);
        x.addTeam(2, 0);
        x.give(0, 1, false);
        x.give(2, 1, false);
        x.pass(2);
        check.due("letter(1, 5), on a stage to inn 1", x.letter(1, 5), 1);
        check.due("letter(0, 6), delivered at inn 1", x.letter(0, 6), 2);
        x.pass(1);
        walks(check, x, 0, true);
    }

    /** Home two stages below, one stage at a time; and home above. */
    private static void towardHome(Check check) {
        Run x = Run.road("1;2;");
        x.addTeam(0, 0);
        x.give(0, 2, false);
        x.pass(4);
        check.team(x, 0, 0, 15, 2, 0, -1, 0, 2, 15, 0, 0);
        x.pass(3);
        check.team(x, 0, 0, 0, 1, 4, -1, 1, 2, 15, 0, 3);
        check.due("stage(1, 5)", x.stage(1, 5), 1);
        x.pass(4);
        check.team(x, 0, 0, 0, 0, 2, -1, 1, 2, 15, 1, 3);
        check.due("stage(0, 5)", x.stage(0, 5), 1);
        x.pass(2);
        check.team(x, 0, 0, 0, 0, 0, -1, 0, 2, 15, 2, 3);
        Run y = Run.road("2;1;");
        y.addTeam(2, 0);
        y.give(2, 1, false);
        y.pass(3);
        check.team(y, 0, 2, 0, 2, 2, -1, 1);
        check.due("stage(1, 5)", y.stage(1, 5), 1);
        y.pass(2);
        check.team(y, 0, 2, 0, 2, 0, -1, 0, 1, 5, 1, 1);
    }

    private static void notBlocked(Check check) {
        Run x = away();
        x.setStage(0, 1, 0, true);
        x.pass(3);
        check.team(x, 0, 0, 0, 1, 0, -1, 0);
        x.setStage(0, 1, 0, false);
        x.pass(1);
        walks(check, x, 0, true);
        Run other = away();
        other.setStage(1, 1, 0, true);
        other.pass(1);
        walks(check, other, 0, true);
        onItsWay(check);
    }

    /** A stage that is blocked behind its back holds no team. */
    private static void onItsWay(Check check) {
        Run x = away();
        x.pass(1);
        x.setStage(0, 1, 0, true);
        x.setInn(0, 0, 100, false);
        x.pass(2);
        check.team(x, 0, 0, 0, 0, 0, -1, 0, 1, 5, 1, 1);
    }

    /** From no bed to six at home, and from none to six that stand there. */
    private static void freeBed(Check check) {
        for (int beds = 0; beds <= 6; beds++) {
            for (int standing = 0; standing <= 7; standing++) {
                Run x = away();
                x.setInn(0, beds, 100, false);
                for (int i = 0; i < standing; i++) {
                    x.addTeam(0, 0);
                }
                x.pass(1);
                walks(check, x, 0, standing < beds);
            }
        }
        theLastBedIsTaken(check);
    }

    /** By the team 0, which goes home's way with a letter in the same hour. */
    private static void theLastBedIsTaken(Check check) {
        Run x = Run.road("1;1;");
        x.addTeam(1, 0);
        x.addTeam(0, 0);
        x.give(0, 1, false);
        x.pass(2);
        x.give(1, 0, true);
        x.setInn(0, 1, 100, false);
        x.pass(1);
        check.inn(x, 0, 1, 100, 0, 0, 1, 0, 0);
        check.team(x, 0, 1, 0, 0, 1, 1, 0);
        check.team(x, 1, 0, 0, 1, 0, -1, 0);
        x.setInn(0, 2, 100, false);
        x.pass(1);
        walks(check, x, 1, true);
    }

    private static void atOnce(Check check) {
        Run x = away();
        x.pass(1);
        check.inn(x, 1, 2, 99, 0, 0, 0, 0, 2);
        check.inn(x, 0, 2, 100, 0, 0, 1, 0, 1);
        check.due("stage(0, 5)", x.stage(0, 5), 1);
        check.team(x, 0, 0, 0, 0, 2, -1, 1, 1, 5, 0, 1);
    }

    private static void twiceTheHours(Check check) {
        for (int hours = 1; hours <= 9; hours++) {
            Run x = away();
            x.setStage(0, hours, 5, false);
            x.pass(1);
            check.team(x, 0, 0, 0, 0, 2 * hours, -1, 1);
            x.setStage(0, 1, 0, false);
            x.pass(2 * hours - 1);
            check.team(x, 0, 0, 0, 0, 1, -1, 1, 1, 5, 0, 1);
            x.pass(1);
            check.team(x, 0, 0, 0, 0, 0, -1, 0, 1, 5, 1, 1);
        }
    }

    private static void shutInns(Check check) {
        for (int shut = 1; shut <= 3; shut++) {
            Run x = away();
            x.setInn(0, 2, 100, (shut & 1) != 0);
            x.setInn(1, 2, 100, (shut & 2) != 0);
            x.pass(1);
            walks(check, x, 0, true);
            x.pass(2);
            check.team(x, 0, 0, 0, 0, 0, -1, 0, 1, 5, 1, 1);
        }
    }
}
