/** Promise 7: pass; the four parts of an hour have tests of their own. */
public final class Promise07Test {
    public static void main(String[] args) {
        Check check = new Check("Promise07Test");
        PostRoad x = new PostRoad();
        check.badArgument(x, "pass(0)", () -> x.pass(0));
        check.badArgument(x, "pass(-1)", () -> x.pass(-1));
        check.badArgument(x, "pass(201)", () -> x.pass(201));
        check.badArgument(x, "pass of the most number", () -> x.pass(Integer.MAX_VALUE));
        check.due("pass(1)", x.pass(1), 0);
        check.due("value(3)", x.value(3), 1);
        check.undoable(x, "pass(200)", () -> x.pass(200));
        for (int i = 0; i < 49; i++) {
            x.pass(200);
        }
        check.due("pass(198)", x.pass(198), 0);
        check.due("value(3)", x.value(3), 9999);
        check.badState(x, "pass(2) at 9999", () -> x.pass(2));
        check.due("pass(1) at 9999", x.pass(1), 0);
        check.due("value(3)", x.value(3), 10000);
        check.badState(x, "pass(1) at 10000", () -> x.pass(1));
        check.badArgument(x, "pass(201) at 10000", () -> x.pass(201));
        check.badArgument(x, "pass(0) at 10000", () -> x.pass(0));
        deliversSome(check);
        passIsHours(check);
        check.end();
    }

    private static void deliversSome(Check check) {
        PostRoad x = new PostRoad();
        x.setInn(1, 6, 100, false);
        x.addTeam(0, 0);
        x.addTeam(0, 0);
        x.addTeam(1, 0);
        x.give(0, 1, false);
        x.give(0, 1, true);
        x.give(1, 0, false);
        check.due("pass(2)", x.pass(2), 0);
        check.due("pass(1)", x.pass(1), 3);
        check.due("pass(1) after the last", x.pass(1), 0);
    }

    /** Some hours at once are the same as one after the other. */
    private static void passIsHours(Check check) {
        PostRoad x = lively();
        PostRoad y = lively();
        int sum = 0;
        for (int i = 0; i < 40; i++) {
            sum += y.pass(1);
        }
        check.due("pass(40)", x.pass(40), sum);
        check.due("answers after pass(40)", Digests.withoutSavedStates(x, 0), Digests.withoutSavedStates(y, 0));
        check.holds("some were delivered", sum > 2);
    }

    private static PostRoad lively() {
        PostRoad x = Check.road("2+3;1;3-2;");
        for (int i = 0; i < 6; i++) {
            x.addTeam(i % 4, 9 * i);
            x.give(i % 4, (i + 1 + i / 4) % 4, i % 3 == 0);
        }
        return x;
    }
}
