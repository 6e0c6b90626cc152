/** Promise 18: effortHome. */
public final class Promise18Test {
    public static void main(String[] args) {
        Check check = new Check("Promise18Test");
        PostRoad x = Check.road("1+1;2-1;1+5;");
        x.addTeam(0, 0);
        x.addTeam(3, 0);
        check.due("effortHome(0) at home", x.effortHome(0), 0);
        x.give(0, 3, false);
        x.pass(1);
        check.due("effortHome(0) on a stage away from inn 0", x.effortHome(0), 5);
        x.pass(1);
        check.due("effortHome(0) two stages away", x.effortHome(0), 5 + 14);
        x.pass(4);
        check.due("letter(0, 6)", x.letter(0, 6), 5);
        x.setInn(0, 0, 0, true);
        check.due("effortHome(0) three stages away", x.effortHome(0), 5 + 14 + 5);
        check.due("effortHome(1) at home", x.effortHome(1), 0);
        x.give(3, 0, false);
        x.pass(20);
        x.setStage(0, 1, 1, true);
        homeAhead(check);
        PostRoad y = new PostRoad();
        check.badIndex(y, "effortHome(0)", () -> y.effortHome(0));
        y.addTeam(0, 0);
        check.badIndex(y, "effortHome(-1)", () -> y.effortHome(-1));
        check.badIndex(y, "effortHome(1)", () -> y.effortHome(1));
        check.end();
    }

    /** A home with a higher number: the efforts are those away from inn 0, as the stages are now. */
    private static void homeAhead(Check check) {
        PostRoad x = Check.road("1+1;2-1;1+5;");
        x.addTeam(3, 0);
        x.give(3, 0, false);
        x.pass(1);
        check.due("effortHome(0) one stage away", x.effortHome(0), 25);
        x.pass(1);
        check.due("effortHome(0) two stages away", x.effortHome(0), 6 + 25);
        x.pass(2);
        check.due("effortHome(0) three stages away", x.effortHome(0), 9 + 6 + 25);
        x.setStage(0, 9, 5, true);
        check.due("effortHome(0) over a blocked hill", x.effortHome(0), 65 + 6 + 25);
    }
}
