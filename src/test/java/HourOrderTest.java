/** An hour: its four parts come one after the other. */
public final class HourOrderTest {
    public static void main(String[] args) {
        Check check = new Check("An hour");
        check.sentence("When an hour passes, these things happen, in this order", HourOrderTest::inThisOrder);
        check.sentence("Then the hour is the next one.", HourOrderTest::nextHour);
        check.end();
    }

    private static void inThisOrder(Check check) {
        restAheadOfRoads(check);
        restAheadOfLetters(check);
        restAheadOfWalking(check);
        roadsAheadOfLetters(check);
        roadsAheadOfWalking(check);
        lettersAheadOfWalking(check);
    }

    /** A team of inn 0 that has just come to inn 1 over one flat hour, with a tiredness of 5. */
    private static Run away() {
        Run x = Run.road("1;1;");
        x.addTeam(0, 0);
        x.give(0, 1, false);
        x.pass(2);
        return x;
    }

    /** It has come in this hour: it rests from the next one on. */
    private static void restAheadOfRoads(Check check) {
        Run x = away();
        check.team(x, 0, 0, 5, 1, 0, -1, 0, 1, 5, 0, 0);
        check.inn(x, 1, 2, 100);
        x.pass(1);
        check.due("team(0, 9)", x.team(0, 9), 1);
        check.inn(x, 1, 2, 99);
    }

    private static void restAheadOfLetters(Check check) {
        for (int tiredness = 95; tiredness <= 98; tiredness++) {
            Run x = new Run();
            x.addTeam(0, tiredness);
            x.give(0, 1, false);
            x.pass(1);
            check.due("team that can run after rest alone, from " + tiredness, x.letter(0, 5), tiredness <= 96 ? 0 : -1);
        }
    }

    /** From 5 to 0 in the first hour of rest with fodder, in the fifth without. */
    private static void restAheadOfWalking(Check check) {
        Run x = away();
        x.pass(1);
        check.team(x, 0, 0, 0, 0, 2, -1, 1);
        Run y = away();
        y.setInn(1, 2, 0, false);
        y.pass(4);
        check.team(y, 0, 0, 1, 1, 0, -1, 0);
        y.pass(1);
        check.team(y, 0, 0, 0, 0, 2, -1, 1);
    }

    /** The letter goes on in the hour in which it came, with the team that brought it. */
    private static void roadsAheadOfLetters(Check check) {
        Run x = Run.road("1;2;");
        x.addTeam(0, 0);
        x.give(0, 2, false);
        x.pass(2);
        check.letter(x, 0, 0, 2, 0, 0, 2, 0, -1, 2);
        check.team(x, 0, 0, 5, 2, 2, 0, 0, 1, 5);
        check.due("pass(2)", x.pass(2), 1);
    }

    /** The team that has walked to inn 1 walks on to inn 0 in the same hour; a letter that has come keeps one at inn 1. */
    private static void roadsAheadOfWalking(Check check) {
        Run x = Run.road("1;2;");
        x.addTeam(0, 0);
        x.give(0, 2, false);
        x.pass(4 + 3 + 3);
        check.team(x, 0, 0, 0, 1, 1, -1, 1, 2, 15, 0);
        x.pass(1);
        check.team(x, 0, 0, 0, 0, 2, -1, 1, 2, 15, 1);
        Run y = away();
        y.setStage(1, 1, 0, true);
        y.addTeam(0, 0);
        y.give(0, 2, false);
        y.setInn(1, 2, 0, false);
        y.pass(2);
        check.team(y, 0, 0, 3, 1, 0);
        y.pass(9);
        check.team(y, 0, 0, 0, 1, 0, -1, 0);
        check.team(y, 1, 0, 0, 1, 0, -1, 0);
    }

    private static void lettersAheadOfWalking(Check check) {
        Run x = away();
        x.give(1, 2, false);
        x.pass(1);
        check.team(x, 0, 0, 0, 2, 1, 1, 0);
        theOtherTeamWalks(check);
        theBedIsFreeForTheWalk(check);
    }

    /** Two teams of inn 0 are rested at inn 1: the letter goes with one, and then none lies there and the other walks. */
    private static void theOtherTeamWalks(Check check) {
        Run x = Run.road("1;1;");
        x.addTeam(0, 0);
        x.addTeam(0, 0);
        x.give(0, 1, false);
        x.give(0, 1, false);
        x.pass(2);
        x.give(1, 2, false);
        x.pass(1);
        check.team(x, 0, 0, 0, 2, 1, 2, 0);
        check.team(x, 1, 0, 0, 0, 2, -1, 1);
    }

    private static void theBedIsFreeForTheWalk(Check check) {
        Run x = away();
        x.setInn(0, 1, 100, false);
        x.setInn(1, 3, 100, false);
        x.addTeam(0, 0);
        x.give(0, 1, false);
        x.pass(1);
        check.team(x, 1, 0, 0, 1, 1, 1, 0);
        check.team(x, 0, 0, 0, 0, 2, -1, 1);
    }

    private static void nextHour(Check check) {
        Run x = Run.road("1;");
        x.addTeam(0, 0);
        x.give(0, 1, false);
        for (int hour = 0; hour < 5; hour++) {
            check.due("value(3)", x.value(3), hour);
            check.due("pass(1) at " + hour, x.pass(1), hour == 1 ? 1 : 0);
        }
        check.due("letter(0, 6), the hour that began then", x.letter(0, 6), 2);
        x.give(0, 1, false);
        check.due("letter(1, 3)", x.letter(1, 3), 5);
        x.pass(200);
        check.due("value(3)", x.value(3), 205);
    }
}
