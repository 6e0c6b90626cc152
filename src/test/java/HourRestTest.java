/** An hour's part 1: rest. */
public final class HourRestTest {
    public static void main(String[] args) {
        Check check = new Check("HourRestTest");
        withFodder(check);
        withoutFodder(check);
        lastFodder(check);
        onTheRoad(check);
        noRestOnArrival(check);
        check.end();
    }

    private static void withFodder(Check check) {
        PostRoad x = new PostRoad();
        x.addTeam(1, 7);
        x.setInn(1, 2, 100, true);
        x.pass(1);
        tell(check, x, 0, 1, 1);
        check.due("inn(1, 1), though it is shut", x.inn(1, 1), 99);
        check.due("inn(0, 1)", x.inn(0, 1), 100);
        x.pass(1);
        tell(check, x, 0, 0, 2);
        x.pass(5);
        tell(check, x, 0, 0, 2);
        check.due("inn(1, 1) with a rested team", x.inn(1, 1), 98);
        check.due("value(8)", x.value(8), 2);
    }

    private static void withoutFodder(Check check) {
        PostRoad x = new PostRoad();
        x.setInn(0, 2, 0, false);
        x.addTeam(0, 2);
        x.pass(1);
        tell(check, x, 0, 1, 0);
        x.pass(2);
        tell(check, x, 0, 0, 0);
        check.due("inn(0, 1)", x.inn(0, 1), 0);
        check.due("value(8)", x.value(8), 0);
    }

    private static void lastFodder(Check check) {
        PostRoad x = new PostRoad();
        x.setInn(0, 2, 1, false);
        x.addTeam(0, 0);
        x.addTeam(0, 20);
        x.addTeam(0, 10);
        x.addTeam(1, 10);
        x.pass(1);
        tell(check, x, 0, 0, 0);
        tell(check, x, 1, 14, 1);
        tell(check, x, 2, 9, 0);
        tell(check, x, 3, 4, 1);
        check.due("value(8)", x.value(8), 2);
    }

    private static void onTheRoad(Check check) {
        PostRoad x = Check.road("5;");
        x.addTeam(0, 30);
        x.give(0, 1, false);
        x.pass(1);
        tell(check, x, 0, 24, 1);
        x.pass(4);
        tell(check, x, 0, 24, 1);
    }

    private static void noRestOnArrival(Check check) {
        PostRoad x = Check.road("1;");
        x.addTeam(0, 0);
        x.give(0, 1, false);
        x.pass(2);
        tell(check, x, 0, 5, 0);
        x.pass(1);
        tell(check, x, 0, 0, 1);
    }

    private static void tell(Check check, PostRoad x, int team, int tiredness, int eaten) {
        check.due("team(" + team + ", 1)", x.team(team, 1), tiredness);
        check.due("team(" + team + ", 9)", x.team(team, 9), eaten);
    }
}
