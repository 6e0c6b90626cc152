/** Promise 15: hoursToAll. */
public final class Promise15Test {
    public static void main(String[] args) {
        Check check = new Check("Promise15Test");
        PostRoad x = new PostRoad();
        check.due("hoursToAll() without letters", x.hoursToAll(), 0);
        x.setInn(1, 6, 100, false);
        x.give(0, 1, false);
        check.due("hoursToAll() without teams", x.hoursToAll(), -1);
        x.addTeam(0, 0);
        check.due("hoursToAll()", x.hoursToAll(), 3);
        x.give(0, 1, true);
        long before = x.digest();
        int all = x.hoursToAll();
        check.due("hoursToAll() is that of the last", all, x.hoursTo(0));
        check.holds("the express letter comes earlier", x.hoursTo(1) < all);
        check.due("digest() after the questions", x.digest(), before);
        check.due("pass to the hour ahead", x.pass(all - 1), 1);
        check.due("hoursToAll()", x.hoursToAll(), 1);
        check.due("pass(1)", x.pass(1), 1);
        check.due("hoursToAll() when all are delivered", x.hoursToAll(), 0);
        x.give(0, 1, false);
        x.give(1, 0, false);
        x.setStage(0, 2, 0, true);
        check.due("hoursToAll() over a blocked stage", x.hoursToAll(), -1);
        atFiveHundred(check);
        oneOfTwoNever(check);
        check.end();
    }

    private static void atFiveHundred(Check check) {
        PostRoad x = Promise14Test.slowRoad();
        x.pass(17);
        check.due("hoursToAll() of 501", x.hoursToAll(), -1);
        x.pass(1);
        check.due("hoursToAll() of 500", x.hoursToAll(), 500);
    }

    private static void oneOfTwoNever(Check check) {
        PostRoad x = Check.road("1;1;");
        x.addTeam(0, 0);
        x.give(0, 1, false);
        x.give(1, 2, false);
        x.setInn(2, 2, 0, true);
        check.due("hoursTo(0)", x.hoursTo(0), 2);
        check.due("hoursToAll()", x.hoursToAll(), -1);
    }
}
