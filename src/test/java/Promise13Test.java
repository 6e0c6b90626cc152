/** Promise 13: why. */
public final class Promise13Test {
    public static void main(String[] args) {
        Check check = new Check("Promise13Test");
        oneAfterTheOther(check);
        bothInns(check);
        asItIsNow(check);
        otherLettersDoNotCount(check);
        mostTired(check);
        check.end();
    }

    /** All hindrances at once, then taken away from the first on. */
    private static void oneAfterTheOther(Check check) {
        PostRoad x = Check.road("9-5;");
        x.give(1, 0, false);
        x.setStage(0, 9, -5, true);
        x.setInn(1, 2, 0, true);
        x.setInn(0, 0, 0, false);
        check.due("why(0)", x.why(0), 3);
        x.setStage(0, 9, -5, false);
        check.due("why(0)", x.why(0), 4);
        x.setInn(1, 2, 0, false);
        check.due("why(0)", x.why(0), 5);
        x.setInn(0, 1, 0, false);
        check.due("why(0)", x.why(0), 6);
        x.addTeam(1, 36);
        check.due("why(0)", x.why(0), 7);
        x.addTeam(1, 36);
        check.due("why(0)", x.why(0), 7);
        x.addTeam(1, 35);
        check.due("why(0)", x.why(0), 0);
        x.pass(1);
        check.due("why(0) on a stage", x.why(0), 2);
        x.setStage(0, 9, -5, true);
        check.due("why(0) on a blocked stage", x.why(0), 2);
        x.pass(9);
        check.due("why(0)", x.why(0), 1);
        check.badIndex(x, "why(-1)", () -> x.why(-1));
        check.badIndex(x, "why(1)", () -> x.why(1));
    }

    private static void bothInns(Check check) {
        PostRoad x = Check.road("1;1;");
        x.addTeam(1, 0);
        x.give(1, 0, false);
        x.give(1, 2, false);
        x.setInn(0, 2, 0, true);
        check.due("why(0)", x.why(0), 4);
        check.due("why(1)", x.why(1), 0);
        x.setInn(1, 2, 0, true);
        check.due("why(1)", x.why(1), 4);
        x.setInn(1, 2, 0, false);
        x.setInn(0, 2, 0, false);
        x.setStage(1, 1, 0, true);
        check.due("why(0)", x.why(0), 0);
        check.due("why(1)", x.why(1), 3);
        x.setStage(0, 1, 0, true);
        x.setStage(1, 1, 0, false);
        check.due("why(0)", x.why(0), 3);
        check.due("why(1)", x.why(1), 0);
    }

    /** Rest and roads of the next hour do not matter, though the letter goes in it. */
    private static void asItIsNow(Check check) {
        PostRoad x = Check.road("2;2;");
        x.addTeam(0, 91);
        x.give(0, 1, false);
        check.due("why(0)", x.why(0), 7);
        x.pass(1);
        check.due("why(0)", x.why(0), 2);
        x.give(1, 2, false);
        x.pass(1);
        check.due("why(1) an hour ahead of a team", x.why(1), 6);
    }

    private static void otherLettersDoNotCount(Check check) {
        PostRoad x = new PostRoad();
        x.setInn(1, 1, 0, false);
        x.addTeam(0, 0);
        x.give(0, 1, true);
        x.give(0, 1, false);
        check.due("why(0)", x.why(0), 0);
        check.due("why(1)", x.why(1), 0);
    }

    private static void mostTired(Check check) {
        PostRoad x = new PostRoad();
        x.give(0, 1, false);
        for (int i = 0; i < 10; i++) {
            check.due("why(0) with " + i + " teams", x.why(0), i == 0 ? 6 : 7);
            x.addTeam(0, 100 - i / 5);
        }
        check.due("why(0) with ten teams", x.why(0), 7);
        PostRoad y = new PostRoad();
        y.give(0, 1, false);
        for (int i = 0; i < 9; i++) {
            y.addTeam(1, 0);
        }
        y.setInn(1, 6, 0, false);
        check.due("why(0) with nine teams at six beds", y.why(0), 5);
        y.addTeam(0, 90);
        check.due("why(0) with nine teams at six beds", y.why(0), 5);
    }
}
