/** Promise 1: a new object. */
public final class Promise01Test {
    public static void main(String[] args) {
        Check check = new Check("Promise01Test");
        PostRoad x = new PostRoad();
        check.due("NONE", PostRoad.NONE, -1);
        check.due("value(0)", x.value(0), 2);
        for (int what = 1; what <= 10; what++) {
            check.due("value(" + what + ")", x.value(what), 0);
        }
        int[] stage = {2, 0, 0, 10, 10, 0};
        for (int what = 0; what <= 5; what++) {
            check.due("stage(0, " + what + ")", x.stage(0, what), stage[what]);
        }
        int[] inn = {2, 100, 0, 0, 0, 0, 2};
        for (int i = 0; i < 2; i++) {
            for (int what = 0; what <= 6; what++) {
                check.due("inn(" + i + ", " + what + ")", x.inn(i, what), inn[what]);
            }
        }
        check.badIndex(x, "stage(1, 0)", () -> x.stage(1, 0));
        check.badIndex(x, "inn(2, 0)", () -> x.inn(2, 0));
        check.badIndex(x, "team(0, 0)", () -> x.team(0, 0));
        check.badIndex(x, "letter(0, 0)", () -> x.letter(0, 0));
        check.badState(x, "undo()", x::undo);
        check.due("clearText()", x.clearText(), 0);
        twoObjectsShareNothing(check);
        check.end();
    }

    private static void twoObjectsShareNothing(Check check) {
        PostRoad one = new PostRoad();
        PostRoad other = new PostRoad();
        long fresh = other.digest();
        one.setStage(0, 9, 5, true);
        one.setInn(0, 6, 999, true);
        one.addTeam(0, 50);
        one.give(0, 1, true);
        one.append('1');
        one.pass(3);
        check.due("digest() of another object", other.digest(), fresh);
        check.due("digest() of a later object", new PostRoad().digest(), fresh);
    }
}
