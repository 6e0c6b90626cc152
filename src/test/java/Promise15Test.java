/** Promise 15: hoursToAll. */
public final class Promise15Test {
    public static void main(String[] args) {
        Check check = new Check("Promise 15");
        check.sentence("Tells how many hours would pass until all letters would be delivered.", Promise15Test::asTheyCome);
        check.sentence("Returns the hours", Promise15Test::hours);
        check.sentence("0 if they are", Promise15Test::allDelivered);
        check.sentence("NONE if they would not be within 500 hours.", Promise15Test::within500);
        check.end();
    }

    private static Run twoLetters() {
        Run x = new Run();
        x.setInn(1, 6, 100, false);
        x.addTeam(0, 0);
        x.give(0, 1, false);
        x.give(0, 1, true);
        return x;
    }

    private static void asTheyCome(Check check) {
        Run x = twoLetters();
        int all = x.hoursToAll();
        check.due("hoursToAll() is that of the last", all, x.hoursTo(0));
        check.holds("the express letter comes earlier", x.hoursTo(1) < all);
        check.due("pass to the hour ahead", x.pass(all - 1), 1);
        check.due("hoursToAll()", x.hoursToAll(), 1);
        check.due("pass(1)", x.pass(1), 1);
        check.due("hoursToAll()", x.hoursToAll(), 0);
        check.changesNothing(twoLetters(), "hoursToAll()", Run::hoursToAll);
        check.changesNothing(TermsUndoTest.busy(), "hoursToAll()", Run::hoursToAll);
    }

    /** One letter, then a second that must wait for the team, then a third from the other end. */
    private static void hours(Check check) {
        Run x = Run.road("1;");
        x.addTeam(0, 0);
        x.give(0, 1, false);
        check.due("hoursToAll() of one", x.hoursToAll(), 2);
        x.give(0, 1, false);
        check.due("hoursToAll() of two", x.hoursToAll(), 6);
        x.addTeam(1, 0);
        x.give(1, 0, false);
        check.due("hoursToAll() of three, two teams", x.hoursToAll(), 3);
        x.pass(2);
        check.due("hoursToAll() after two hours", x.hoursToAll(), 1);
    }

    private static void allDelivered(Check check) {
        check.due("hoursToAll() without letters", new Run().hoursToAll(), 0);
        Run x = Run.road("1;");
        x.addTeam(0, 0);
        check.due("hoursToAll() with a team, without letters", x.hoursToAll(), 0);
        x.give(0, 1, false);
        x.pass(1);
        check.due("hoursToAll() an hour ahead", x.hoursToAll(), 1);
        x.pass(1);
        check.due("hoursToAll() when it is delivered", x.hoursToAll(), 0);
        x.collect();
        check.due("hoursToAll() when it is taken away", x.hoursToAll(), 0);
        x.give(1, 0, false);
        check.holds("hoursToAll() with a new letter is not 0", x.hoursToAll() != 0);
    }

    private static void within500(Check check) {
        Run x = Promise14Test.slowRoad();
        for (int passed = 0; passed <= 21; passed++) {
            check.due("hoursToAll() of " + (518 - passed), x.hoursToAll(), passed < 18 ? -1 : 518 - passed);
            x.pass(1);
        }
        Run never = new Run();
        never.give(0, 1, false);
        check.due("hoursToAll() without teams", never.hoursToAll(), -1);
        oneOfTwoNever(check);
    }

    private static void oneOfTwoNever(Check check) {
        Run x = Run.road("1;1;");
        x.addTeam(0, 0);
        x.give(0, 1, false);
        x.give(1, 2, false);
        check.due("hoursToAll()", x.hoursToAll(), 3);
        x.setInn(2, 2, 0, true);
        check.due("hoursTo(0)", x.hoursTo(0), 2);
        check.due("hoursToAll() with one that can't come", x.hoursToAll(), -1);
    }
}
