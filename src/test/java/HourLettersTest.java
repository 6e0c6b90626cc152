/** An hour's part 3: letters. */
public final class HourLettersTest {
    public static void main(String[] args) {
        Check check = new Check("HourLettersTest");
        earlierFirst(check);
        expressFirst(check);
        onceThrough(check);
        hindered(check);
        notTooTired(check);
        leastTired(check);
        atOnceAfterComing(check);
        bedsOfBothEnds(check);
        check.end();
    }

    private static void goes(Check check, PostRoad x, int letter, int team) {
        check.due("letter(" + letter + ", 5)", x.letter(letter, 5), team);
        check.due("letter(" + letter + ", 7)", x.letter(letter, 7), team < 0 ? 0 : 1);
    }

    private static void earlierFirst(Check check) {
        PostRoad x = new PostRoad();
        x.give(0, 1, false);
        x.give(0, 1, false);
        x.pass(3);
        x.give(0, 1, false);
        x.addTeam(0, 0);
        x.pass(1);
        goes(check, x, 0, 0);
        goes(check, x, 1, -1);
        goes(check, x, 2, -1);
        x.addTeam(0, 0);
        x.setInn(1, 6, 0, false);
        x.pass(1);
        goes(check, x, 1, 1);
        goes(check, x, 2, -1);
    }

    private static void expressFirst(Check check) {
        PostRoad x = new PostRoad();
        x.give(0, 1, false);
        x.pass(3);
        x.give(0, 1, true);
        x.give(0, 1, true);
        x.addTeam(0, 0);
        x.pass(1);
        goes(check, x, 0, -1);
        goes(check, x, 1, 0);
        goes(check, x, 2, -1);
    }

    /** A bed that becomes free behind a letter's turn is of no use to it in this hour. */
    private static void onceThrough(Check check) {
        PostRoad x = bedTaken();
        x.give(0, 1, false);
        x.give(1, 2, false);
        x.pass(1);
        goes(check, x, 0, -1);
        goes(check, x, 1, 1);
        x.pass(1);
        goes(check, x, 0, 0);

        PostRoad y = bedTaken();
        y.give(1, 2, false);
        y.give(0, 1, false);
        y.pass(1);
        goes(check, y, 0, 1);
        goes(check, y, 1, 0);

        PostRoad z = bedTaken();
        z.give(0, 1, false);
        z.give(1, 2, true);
        z.pass(1);
        goes(check, z, 0, 0);
        goes(check, z, 1, 1);
    }

    private static PostRoad bedTaken() {
        PostRoad x = Check.road("3;3;");
        x.setInn(1, 1, 100, false);
        x.addTeam(0, 0);
        x.addTeam(1, 0);
        return x;
    }

    private static void hindered(Check check) {
        PostRoad x = Check.road("1;1;");
        x.addTeam(0, 0);
        x.give(0, 1, true);
        x.setStage(0, 1, 0, true);
        x.pass(1);
        goes(check, x, 0, -1);
        x.setStage(0, 1, 0, false);
        x.setInn(0, 2, 0, true);
        x.pass(1);
        goes(check, x, 0, -1);
        x.setInn(0, 2, 0, false);
        x.setInn(1, 2, 0, true);
        x.pass(1);
        goes(check, x, 0, -1);
        x.setInn(1, 0, 0, false);
        x.pass(1);
        goes(check, x, 0, -1);
        x.setInn(1, 1, 0, false);
        x.setInn(2, 0, 0, true);
        x.setStage(1, 9, 5, true);
        x.pass(1);
        goes(check, x, 0, 0);
    }

    private static void notTooTired(Check check) {
        for (int tiredness = 0; tiredness <= 100; tiredness++) {
            PostRoad x = Check.road("9+5;");
            x.setInn(0, 2, 0, false);
            x.addTeam(0, tiredness);
            x.give(0, 1, false);
            x.pass(1);
            goes(check, x, 0, tiredness <= 36 ? 0 : -1);
        }
        PostRoad back = Check.road("9+5;");
        back.setInn(1, 2, 0, false);
        back.addTeam(1, 76);
        back.give(1, 0, false);
        back.pass(1);
        goes(check, back, 0, 0);
    }

    private static void leastTired(Check check) {
        PostRoad x = new PostRoad();
        x.setInn(0, 6, 0, false);
        x.setInn(1, 6, 0, false);
        x.addTeam(1, 0);
        x.addTeam(0, 40);
        x.addTeam(0, 30);
        x.addTeam(0, 20);
        x.addTeam(0, 20);
        for (int i = 0; i < 5; i++) {
            x.give(0, 1, false);
        }
        x.pass(1);
        goes(check, x, 0, 3);
        goes(check, x, 1, 4);
        goes(check, x, 2, 2);
        goes(check, x, 3, 1);
        goes(check, x, 4, -1);
        check.due("stage(0, 5)", x.stage(0, 5), 4);
        check.due("team(3, 4)", x.team(3, 4), 0);
        check.due("team(3, 5)", x.team(3, 5), 0);
    }

    /** A letter that comes in part 2 goes on in part 3 of the same hour, with the team that brought it, too. */
    private static void atOnceAfterComing(Check check) {
        PostRoad x = Check.road("1;2;");
        x.addTeam(0, 0);
        x.give(0, 2, false);
        x.pass(2);
        check.due("letter(0, 4)", x.letter(0, 4), 2);
        check.due("letter(0, 5)", x.letter(0, 5), 0);
        check.due("letter(0, 7)", x.letter(0, 7), 2);
        check.due("team(0, 2)", x.team(0, 2), 2);
        check.due("team(0, 3)", x.team(0, 3), 2);
        check.due("team(0, 6)", x.team(0, 6), 1);
        check.due("stage(1, 5)", x.stage(1, 5), 1);
        check.due("inn(1, 6)", x.inn(1, 6), 2);
        check.due("pass(2)", x.pass(2), 1);
    }

    private static void bedsOfBothEnds(Check check) {
        PostRoad x = new PostRoad();
        x.addTeam(0, 0);
        x.addTeam(0, 0);
        x.addTeam(0, 0);
        x.give(0, 1, false);
        x.give(0, 1, false);
        x.give(0, 1, false);
        x.pass(1);
        check.due("inn(0, 6)", x.inn(0, 6), 1);
        check.due("inn(1, 6)", x.inn(1, 6), 0);
        check.due("inn(1, 4)", x.inn(1, 4), 2);
        goes(check, x, 2, -1);
    }
}
