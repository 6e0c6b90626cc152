/** An hour's part 1: rest. */
public final class HourRestTest {
    public static void main(String[] args) {
        Check check = new Check("An hour, 1");
        check.sentence("Rest: for each team at an inn", HourRestTest::atAnInn);
        check.sentence("in ascending order", HourRestTest::ascending);
        check.sentence("if its tiredness is above 0 and the inn has fodder, it eats 1 of it", HourRestTest::eats);
        check.sentence("and its tiredness falls by 6 (not below 0)", HourRestTest::fallsBySix);
        check.sentence("otherwise its tiredness falls by 1 (not below 0)", HourRestTest::fallsByOne);
        check.end();
    }

    private static Run resting(int tiredness, int fodder) {
        Run x = new Run();
        x.setInn(1, 2, fodder, false);
        x.addTeam(1, tiredness);
        x.pass(1);
        return x;
    }

    private static void rests(Check check, Run x, int team, int tiredness, int eaten) {
        check.due("team(" + team + ", 1)", x.team(team, 1), tiredness);
        check.due("team(" + team + ", 9)", x.team(team, 9), eaten);
    }

    /** On a stage none rests or eats, neither with a letter nor walking back; at a shut inn one does. */
    private static void atAnInn(Check check) {
        Run x = Run.road("5;");
        x.addTeam(0, 30);
        x.give(0, 1, false);
        x.pass(1);
        rests(check, x, 0, 24, 1);
        x.pass(4);
        rests(check, x, 0, 24, 1);
        x.pass(1);
        rests(check, x, 0, 49, 1);
        x.setInn(1, 2, 100, true);
        x.pass(1);
        rests(check, x, 0, 43, 2);
        x.pass(8);
        check.due("team(0, 5)", x.team(0, 5), 1);
        rests(check, x, 0, 0, 10);
        x.pass(10);
        rests(check, x, 0, 0, 10);
        check.due("inn(0, 1)", x.inn(0, 1), 99);
        check.due("inn(1, 1)", x.inn(1, 1), 91);
    }

    /** The last fodder goes to the lowest team that is tired, and each inn has its own. */
    private static void ascending(Check check) {
        Run x = new Run();
        x.setInn(0, 2, 1, false);
        x.addTeam(0, 0);
        x.addTeam(0, 20);
        x.addTeam(0, 90);
        x.addTeam(1, 10);
        x.pass(1);
        rests(check, x, 0, 0, 0);
        rests(check, x, 1, 14, 1);
        rests(check, x, 2, 89, 0);
        rests(check, x, 3, 4, 1);
        for (int fodder = 0; fodder <= 11; fodder++) {
            tenTeams(check, fodder);
        }
    }

    private static void tenTeams(Check check, int fodder) {
        Run x = new Run();
        x.setInn(0, 2, fodder, false);
        for (int i = 0; i < 10; i++) {
            x.addTeam(0, 50);
        }
        x.pass(1);
        for (int i = 0; i < 10; i++) {
            rests(check, x, i, i < fodder ? 44 : 49, i < fodder ? 1 : 0);
        }
        check.due("inn(0, 1)", x.inn(0, 1), Math.max(0, fodder - 10));
        check.due("value(8)", x.value(8), Math.min(10, fodder));
    }

    private static void eats(Check check) {
        for (int tiredness = 0; tiredness <= 100; tiredness++) {
            for (int fodder : new int[] {0, 1, 2, 999}) {
                Run x = resting(tiredness, fodder);
                int eaten = tiredness > 0 && fodder > 0 ? 1 : 0;
                String of = " of tiredness " + tiredness + ", fodder " + fodder;
                check.due("team(0, 9)" + of, x.team(0, 9), eaten);
                check.due("inn(1, 1)" + of, x.inn(1, 1), fodder - eaten);
                check.due("inn(0, 1)" + of, x.inn(0, 1), 100);
                check.due("value(8)" + of, x.value(8), eaten);
            }
        }
    }

    private static void fallsBySix(Check check) {
        for (int tiredness = 1; tiredness <= 100; tiredness++) {
            check.due("team(0, 1) of " + tiredness, resting(tiredness, 1).team(0, 1), Math.max(0, tiredness - 6));
        }
        Run x = resting(13, 100);
        rests(check, x, 0, 7, 1);
        x.pass(1);
        rests(check, x, 0, 1, 2);
        x.pass(1);
        rests(check, x, 0, 0, 3);
        x.pass(1);
        rests(check, x, 0, 0, 3);
    }

    private static void fallsByOne(Check check) {
        for (int tiredness = 0; tiredness <= 100; tiredness++) {
            check.due("team(0, 1) of " + tiredness, resting(tiredness, 0).team(0, 1), Math.max(0, tiredness - 1));
        }
        rests(check, resting(0, 1), 0, 0, 0);
        Run x = resting(14, 2);
        rests(check, x, 0, 8, 1);
        x.pass(1);
        rests(check, x, 0, 2, 2);
        x.pass(1);
        rests(check, x, 0, 1, 2);
        x.pass(2);
        rests(check, x, 0, 0, 2);
    }
}
