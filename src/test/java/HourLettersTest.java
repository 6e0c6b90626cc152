/** An hour's part 3: letters. */
public final class HourLettersTest {
    public static void main(String[] args) {
        Check check = new Check("An hour, 3");
        check.sentence("Letters: the letters that lie at inns are gone through once", HourLettersTest::once);
        check.sentence("first the express ones, then the others", HourLettersTest::expressFirst);
        check.sentence("each kind by ascending hours at which they were given", HourLettersTest::earlierFirst);
        check.sentence("equal hours by their numbers.", HourLettersTest::lowerFirst);
        check.sentence("A letter can go on if the stage toward its inn is not blocked", HourLettersTest::notBlocked);
        check.sentence("the inn at its end has a free bed", HourLettersTest::freeBed);
        check.sentence("neither the inn where it lies nor the one at the end of the stage is shut", HourLettersTest::notShut);
        check.sentence("and at the inn where it lies a team stands", HourLettersTest::teamStands);
        check.sentence("whose tiredness plus the effort is at most 100.", HourLettersTest::notTooTired);
        check.sentence("Of these teams the one with the least tiredness", HourLettersTest::leastTired);
        check.sentence("of several the lowest one", HourLettersTest::lowestOfSeveral);
        check.sentence("goes on the stage with it at once", HourLettersTest::goesAtOnce);
        check.sentence("(its bed is free then, one at the next inn is not)", HourLettersTest::beds);
        check.sentence("the hours left are the hours of the stage.", HourLettersTest::hoursLeft);
        check.end();
    }

    /** The team that has the letter, NONE if it has not gone. */
    private static void goes(Check check, Run x, int letter, int team) {
        check.due("letter(" + letter + ", 5)", x.letter(letter, 5), team);
        check.due("letter(" + letter + ", 7)", x.letter(letter, 7), team < 0 ? 0 : 1);
    }

    private static Run bedTaken() {
        Run x = Run.road("3;3;");
        x.setInn(1, 1, 100, false);
        x.addTeam(0, 0);
        x.addTeam(1, 0);
        return x;
    }

    /** A bed that becomes free behind a letter's turn is of no use to it in this hour. */
    private static void once(Check check) {
        Run x = bedTaken();
        x.give(0, 1, false);
        x.give(1, 2, false);
        x.pass(1);
        goes(check, x, 0, -1);
        goes(check, x, 1, 1);
        x.pass(1);
        goes(check, x, 0, 0);
        Run y = bedTaken();
        y.give(1, 2, false);
        y.give(0, 1, false);
        y.pass(1);
        goes(check, y, 0, 1);
        goes(check, y, 1, 0);
        notThoseOnStages(check);
    }

    /** A letter that is on a stage or delivered does not go, though a rested team stands at that inn. */
    private static void notThoseOnStages(Check check) {
        Run x = Run.road("3;1;");
        x.addTeam(0, 0);
        x.addTeam(1, 0);
        x.give(0, 2, false);
        x.give(1, 2, false);
        x.pass(2);
        check.letter(x, 0, 0, 2, 0, 0, 1, 0, -1, 1);
        check.letter(x, 1, 1, 2, 0, 0, 2, -1, 2, 1);
        x.addTeam(1, 0);
        x.addTeam(2, 0);
        x.pass(1);
        check.letter(x, 0, 0, 2, 0, 0, 1, 0, -1, 1);
        check.letter(x, 1, 1, 2, 0, 0, 2, -1, 2, 1);
        check.due("value(10)", x.value(10), 1);
    }

    private static void expressFirst(Check check) {
        Run x = new Run();
        x.give(0, 1, false);
        x.pass(3);
        x.give(0, 1, false);
        x.give(0, 1, true);
        x.addTeam(0, 0);
        x.pass(1);
        goes(check, x, 0, -1);
        goes(check, x, 1, -1);
        goes(check, x, 2, 0);
        Run y = bedTaken();
        y.give(0, 1, false);
        y.give(1, 2, true);
        y.pass(1);
        goes(check, y, 0, 0);
        goes(check, y, 1, 1);
        ofTwelve(check);
    }

    /** A team more each hour, for six of twelve letters; then six teams at once. */
    private static void ofTwelve(Check check) {
        Run x = twelve(1, 3, 5, 7, 9, 11);
        int[] order = {1, 3, 5, 7, 9, 11};
        for (int i = 0; i < 6; i++) {
            x.addTeam(0, 0);
            x.pass(1);
            goes(check, x, order[i], i);
            check.due("value(10)", x.value(10), i + 1);
        }
        Run y = twelve(10, 11);
        for (int i = 0; i < 6; i++) {
            y.addTeam(0, 0);
        }
        y.pass(1);
        int[] team = {2, 3, 4, 5, -1, -1, -1, -1, -1, -1, 0, 1};
        for (int i = 0; i < 12; i++) {
            goes(check, y, i, team[i]);
        }
    }

    private static Run twelve(int... express) {
        Run x = Run.road("9;");
        x.setInn(1, 6, 100, false);
        for (int i = 0; i < 12; i++) {
            int number = i;
            x.give(0, 1, java.util.Arrays.stream(express).anyMatch(e -> e == number));
        }
        return x;
    }

    private static void earlierFirst(Check check) {
        for (boolean express : new boolean[] {false, true}) {
            Run x = new Run();
            x.give(0, 1, express);
            x.pass(1);
            x.give(0, 1, express);
            x.pass(2);
            x.give(0, 1, express);
            x.setInn(1, 6, 0, false);
            for (int i = 0; i < 3; i++) {
                x.addTeam(0, 0);
                x.pass(1);
                goes(check, x, i, i);
                check.due("value(9)", x.value(9), 2 - i);
            }
        }
    }

    private static void lowerFirst(Check check) {
        for (boolean express : new boolean[] {false, true}) {
            Run x = new Run();
            for (int i = 0; i < 5; i++) {
                x.give(0, 1, express);
            }
            x.setInn(1, 6, 0, false);
            x.addTeam(0, 0);
            x.addTeam(0, 0);
            x.pass(1);
            for (int i = 0; i < 5; i++) {
                goes(check, x, i, i < 2 ? i : -1);
            }
        }
        afterCollect(check);
    }

    /** The numbers are those that collect() has left. */
    private static void afterCollect(Check check) {
        Run x = Run.road("1;1;");
        x.addTeam(0, 0);
        x.give(0, 1, true);
        x.give(2, 1, false);
        x.give(2, 0, false);
        x.pass(2);
        x.collect();
        x.give(2, 1, false);
        x.addTeam(2, 0);
        x.pass(1);
        goes(check, x, 0, 1);
        goes(check, x, 1, -1);
        goes(check, x, 2, -1);
    }

    /** An inn with a letter to each side and a team for each. */
    private static Run bothWays() {
        Run x = Run.road("1;1;");
        x.addTeam(1, 0);
        x.addTeam(1, 0);
        x.give(1, 0, false);
        x.give(1, 2, false);
        return x;
    }

    private static void notBlocked(Check check) {
        Run x = bothWays();
        x.setStage(0, 1, 0, true);
        x.pass(1);
        goes(check, x, 0, -1);
        goes(check, x, 1, 0);
        Run y = bothWays();
        y.setStage(1, 1, 0, true);
        y.pass(1);
        goes(check, y, 0, 0);
        goes(check, y, 1, -1);
        y.setStage(1, 1, 0, false);
        y.pass(1);
        goes(check, y, 1, 1);
        Run farther = Run.road("1;1;");
        farther.setStage(1, 1, 0, true);
        farther.addTeam(0, 0);
        farther.give(0, 2, false);
        farther.pass(1);
        goes(check, farther, 0, 0);
    }

    /** Of two beds none, one or two are taken: by teams that stand, that come with letters and that walk back. */
    private static void freeBed(Check check) {
        for (int beds = 0; beds <= 6; beds++) {
            for (int standing = 0; standing <= 7; standing++) {
                Run x = new Run();
                x.setInn(1, beds, 100, false);
                for (int i = 0; i < standing; i++) {
                    x.addTeam(1, 50);
                }
                x.addTeam(0, 0);
                x.give(0, 1, false);
                x.pass(1);
                goes(check, x, 0, standing < beds ? standing : -1);
            }
        }
        Run walking = Run.road("1;1;");
        walking.addTeam(1, 0);
        walking.give(1, 0, false);
        walking.pass(3);
        check.team(walking, 0, 1, 0, 1, 2, -1, 1);
        walking.setInn(1, 1, 100, false);
        walking.addTeam(2, 0);
        walking.give(2, 1, false);
        walking.pass(1);
        goes(check, walking, 1, -1);
        walking.setInn(1, 2, 100, false);
        walking.pass(1);
        goes(check, walking, 1, 1);
    }

    private static void notShut(Check check) {
        Run lies = bothWays();
        lies.setInn(1, 2, 100, true);
        lies.pass(1);
        goes(check, lies, 0, -1);
        goes(check, lies, 1, -1);
        Run below = bothWays();
        below.setInn(0, 2, 100, true);
        below.pass(1);
        goes(check, below, 0, -1);
        goes(check, below, 1, 0);
        Run above = bothWays();
        above.setInn(2, 2, 100, true);
        above.pass(1);
        goes(check, above, 0, 0);
        goes(check, above, 1, -1);
        Run farther = Run.road("1;1;");
        farther.setInn(2, 2, 100, true);
        farther.addTeam(0, 0);
        farther.give(0, 2, false);
        farther.pass(1);
        goes(check, farther, 0, 0);
    }

    /** Not one at the next inn, and not one that is still on a stage to it. */
    private static void teamStands(Check check) {
        Run x = Run.road("2;2;");
        x.addTeam(1, 0);
        x.give(0, 1, false);
        x.give(1, 0, true);
        x.pass(2);
        goes(check, x, 0, -1);
        x.pass(1);
        goes(check, x, 0, 0);
        Run none = new Run();
        none.give(0, 1, false);
        none.pass(200);
        goes(check, none, 0, -1);
        none.addTeam(0, 0);
        none.pass(1);
        goes(check, none, 0, 0);
    }

    /** Without fodder the tiredness is one less when the letters have their turn. */
    private static void notTooTired(Check check) {
        for (int tiredness = 0; tiredness <= 100; tiredness++) {
            goesWith(check, "9+5;", 0, tiredness, tiredness - 1 + 65 <= 100);
            goesWith(check, "9+5;", 1, tiredness, tiredness - 1 + 25 <= 100);
            goesWith(check, "1;", 0, tiredness, tiredness - 1 + 5 <= 100);
            goesWith(check, "4-5;", 0, tiredness, tiredness - 1 + 5 <= 100);
        }
    }

    private static void goesWith(Check check, String stage, int from, int tiredness, boolean can) {
        Run x = Run.road(stage);
        x.setInn(from, 2, 0, false);
        x.addTeam(from, tiredness);
        x.give(from, 1 - from, false);
        x.pass(1);
        check.due("team for letter over " + stage + " from " + from + " at " + tiredness, x.letter(0, 5), can ? 0 : -1);
    }

    private static void leastTired(Check check) {
        Run x = new Run();
        x.setInn(0, 6, 0, false);
        x.setInn(1, 6, 0, false);
        x.addTeam(1, 0);
        x.addTeam(0, 92);
        x.addTeam(0, 40);
        x.addTeam(0, 31);
        x.addTeam(0, 30);
        for (int i = 0; i < 4; i++) {
            x.give(0, 1, false);
        }
        x.pass(1);
        goes(check, x, 0, 4);
        goes(check, x, 1, 3);
        goes(check, x, 2, 2);
        goes(check, x, 3, -1);
        Run afterRest = new Run();
        afterRest.setInn(0, 2, 1, false);
        afterRest.addTeam(0, 25);
        afterRest.addTeam(0, 21);
        afterRest.give(0, 1, false);
        afterRest.pass(1);
        goes(check, afterRest, 0, 0);
    }

    private static void lowestOfSeveral(Check check) {
        Run x = new Run();
        x.setInn(0, 6, 0, false);
        x.setInn(1, 6, 0, false);
        x.addTeam(0, 20);
        for (int i = 1; i <= 8; i++) {
            x.addTeam(i == 4 ? 1 : 0, 10);
        }
        x.addTeam(0, 0);
        for (int i = 0; i < 4; i++) {
            x.give(0, 1, false);
        }
        x.pass(1);
        goes(check, x, 0, 9);
        goes(check, x, 1, 1);
        goes(check, x, 2, 2);
        goes(check, x, 3, 3);
        Run rested = new Run();
        rested.addTeam(0, 1);
        rested.addTeam(0, 0);
        rested.give(0, 1, false);
        rested.pass(1);
        goes(check, rested, 0, 0);
    }

    private static void goesAtOnce(Check check) {
        Run x = Run.road("2;3;");
        x.addTeam(0, 0);
        x.addTeam(2, 0);
        x.give(2, 0, true);
        x.pass(1);
        check.letter(x, 0, 2, 0, 1, 0, 1, 1, -1, 1);
        check.team(x, 1, 2, 0, 1, 3, 0, 0, 0, 0, 0, 0);
        check.stage(x, 1, 3, 0, 0, 15, 15, 1);
        check.inn(x, 2, 2, 100, 0, 0, 0, 0, 2);
        check.team(x, 0, 0, 0, 0, 0, -1, 0);
        theTeamIsGone(check);
    }

    /** It can't take a second letter, to the same or to the other side. */
    private static void theTeamIsGone(Check check) {
        Run x = Run.road("1;1;");
        x.addTeam(1, 0);
        x.give(1, 2, false);
        x.give(1, 2, false);
        x.give(1, 0, false);
        x.pass(1);
        goes(check, x, 0, 0);
        goes(check, x, 1, -1);
        goes(check, x, 2, -1);
        check.due("team(0, 4)", x.team(0, 4), 0);
    }

    /** Three letters and teams toward two beds; then the bed that a team leaves serves a later letter of the same hour. */
    private static void beds(Check check) {
        Run x = new Run();
        for (int i = 0; i < 3; i++) {
            x.addTeam(0, 0);
            x.give(0, 1, false);
        }
        x.pass(1);
        check.inn(x, 0, 2, 100, 0, 1, 0, 1, 1);
        check.inn(x, 1, 2, 100, 0, 0, 2, 0, 0);
        goes(check, x, 1, 1);
        goes(check, x, 2, -1);
        Run chain = Run.road("2;2;2;");
        for (int i = 0; i < 3; i++) {
            chain.setInn(i + 1, 1, 100, false);
            chain.addTeam(i, 0);
        }
        for (int i = 2; i >= 0; i--) {
            chain.give(i, i + 1, false);
        }
        chain.pass(1);
        for (int i = 0; i < 3; i++) {
            goes(check, chain, i, 2 - i);
        }
    }

    private static void hoursLeft(Check check) {
        for (int hours = 1; hours <= 9; hours++) {
            Run x = Run.road(hours + ";" + (10 - hours) + ";");
            x.addTeam(1, 0);
            x.addTeam(1, 0);
            x.give(1, 0, false);
            x.give(1, 2, true);
            x.pass(1);
            check.due("team(1, 3)", x.team(1, 3), hours);
            check.due("team(0, 3)", x.team(0, 3), 10 - hours);
            check.due("pass to the hour before the last", x.pass(Math.max(hours, 10 - hours) - 1), hours == 5 ? 0 : 1);
            check.due("pass(1)", x.pass(1), hours == 5 ? 2 : 1);
        }
    }
}
