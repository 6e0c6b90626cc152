/** Promise 9: inn. */
public final class Promise09Test {
    public static void main(String[] args) {
        Check check = new Check("Promise09Test");
        PostRoad x = Check.road("3;3;");
        x.setInn(1, 6, 50, false);
        x.addTeam(0, 0);
        x.addTeam(2, 0);
        x.addTeam(1, 0);
        x.addTeam(1, 12);
        x.give(0, 1, false);
        x.give(2, 1, false);
        x.give(0, 1, false);
        x.give(1, 0, false);
        x.give(1, 0, false);
        x.setInn(0, 1, 999, false);
        inn(check, x, 0, 1, 999, 0, 1, 0, 2, 0);
        inn(check, x, 1, 6, 50, 0, 2, 0, 2, 4);
        inn(check, x, 2, 2, 100, 0, 1, 0, 1, 1);
        x.pass(1);
        inn(check, x, 0, 1, 999, 0, 0, 1, 1, 0);
        inn(check, x, 1, 6, 49, 0, 1, 2, 1, 3);
        inn(check, x, 2, 2, 100, 0, 0, 0, 0, 2);
        x.setInn(1, 2, 7, true);
        inn(check, x, 1, 2, 7, 1, 1, 2, 1, 0);
        check.badIndex(x, "inn(-1, 0)", () -> x.inn(-1, 0));
        check.badIndex(x, "inn(3, 0)", () -> x.inn(3, 0));
        check.badIndex(x, "inn(3, 7)", () -> x.inn(3, 7));
        check.badArgument(x, "inn(0, -1)", () -> x.inn(0, -1));
        check.badArgument(x, "inn(0, 7)", () -> x.inn(0, 7));
        check.end();
    }

    private static void inn(Check check, PostRoad x, int inn, int... want) {
        for (int what = 0; what < want.length; what++) {
            check.due("inn(" + inn + ", " + what + ")", x.inn(inn, what), want[what]);
        }
    }
}
