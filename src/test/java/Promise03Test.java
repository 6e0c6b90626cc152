/** Promise 3: setInn. */
public final class Promise03Test {
    public static void main(String[] args) {
        Check check = new Check("Promise03Test");
        PostRoad x = Check.road("1;1;");
        check.due("setInn(2, 6, 999, true)", x.setInn(2, 6, 999, true), 100);
        holds(check, x, 2, 6, 999, 1);
        holds(check, x, 1, 2, 100, 0);
        check.due("setInn(2, 0, 0, false)", x.setInn(2, 0, 0, false), 999);
        holds(check, x, 2, 0, 0, 0);
        check.due("setInn(0, 3, 5, true)", x.setInn(0, 3, 5, true), 100);
        check.due("setInn(0, 3, 5, true) again", x.setInn(0, 3, 5, true), 5);
        holds(check, x, 0, 3, 5, 1);

        check.badIndex(x, "setInn(-1, 0, 0, false)", () -> x.setInn(-1, 0, 0, false));
        check.badIndex(x, "setInn(3, 0, 0, false)", () -> x.setInn(3, 0, 0, false));
        check.badIndex(x, "setInn(3, 7, 1000, false)", () -> x.setInn(3, 7, 1000, false));
        check.badIndex(x, "setInn of the least number", () -> x.setInn(Integer.MIN_VALUE, 0, 0, false));
        check.badArgument(x, "setInn(0, -1, 0, false)", () -> x.setInn(0, -1, 0, false));
        check.badArgument(x, "setInn(0, 7, 0, false)", () -> x.setInn(0, 7, 0, false));
        check.badArgument(x, "setInn(0, 0, -1, false)", () -> x.setInn(0, 0, -1, false));
        check.badArgument(x, "setInn(0, 0, 1000, false)", () -> x.setInn(0, 0, 1000, false));

        check.undoable(x, "setInn(1, 4, 40, true)", () -> x.setInn(1, 4, 40, true));
        check.undoable(x, "setInn that changes nothing", () -> x.setInn(1, 2, 100, false));
        check.end();
    }

    private static void holds(Check check, PostRoad x, int inn, int beds, int fodder, int shut) {
        check.due("inn(" + inn + ", 0)", x.inn(inn, 0), beds);
        check.due("inn(" + inn + ", 1)", x.inn(inn, 1), fodder);
        check.due("inn(" + inn + ", 2)", x.inn(inn, 2), shut);
    }
}
