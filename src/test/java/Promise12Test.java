/** Promise 12: value. */
public final class Promise12Test {
    public static void main(String[] args) {
        Check check = new Check("Promise12Test");
        PostRoad x = Check.road("2;1;");
        x.addTeam(0, 10);
        x.addTeam(0, 0);
        x.addTeam(1, 13);
        x.pass(2);
        x.give(0, 1, true);
        x.give(1, 2, false);
        x.give(2, 1, true);
        x.give(0, 2, false);
        all(check, x, 3, 3, 4, 2, 0, 0, 0, 0, 4, 4, 0);
        x.pass(1);
        all(check, x, 3, 3, 4, 3, 0, 0, 0, 0, 5, 1, 3);
        check.due("pass(1)", x.pass(1), 1);
        all(check, x, 3, 3, 4, 4, 1, 2, 0, 0, 5, 1, 2);
        check.due("pass(1)", x.pass(1), 1);
        all(check, x, 3, 3, 4, 5, 2, 5, 1, 3, 6, 1, 1);
        check.due("pass(1)", x.pass(1), 1);
        all(check, x, 3, 3, 4, 6, 3, 9, 1, 3, 7, 0, 1);
        check.due("pass(1)", x.pass(1), 1);
        all(check, x, 3, 3, 4, 7, 4, 14, 2, 8, 9, 0, 0);
        check.due("collect()", x.collect(), 4);
        all(check, x, 3, 3, 0, 7, 4, 14, 2, 8, 9, 0, 0);
        x.undo();
        x.undo();
        all(check, x, 3, 3, 4, 6, 3, 9, 1, 3, 7, 0, 1);
        check.badArgument(x, "value(-1)", () -> x.value(-1));
        check.badArgument(x, "value(11)", () -> x.value(11));
        check.end();
    }

    private static void all(Check check, PostRoad x, int... want) {
        for (int what = 0; what < want.length; what++) {
            check.due("hour " + x.value(3) + ": value(" + what + ")", x.value(what), want[what]);
        }
    }
}
