/** Promise 3: setInn. */
public final class Promise03Test {
    public static void main(String[] args) {
        Check check = new Check("Promise 3");
        check.sentence("Sets an inn.", Promise03Test::sets);
        check.sentence("Undoable.", Promise03Test::undoable);
        check.sentence("- inn: number of an inn", Promise03Test::eachInn);
        check.sentence("- beds: 0 to 6", Promise03Test::beds);
        check.sentence("- fodder: 0 to 999", Promise03Test::fodder);
        check.sentence("- shut: whether it is shut", Promise03Test::shut);
        check.sentence("Returns its previous fodder.", Promise03Test::previousFodder);
        check.sentence("Throws IndexOutOfBoundsException if there is no such inn", Promise03Test::noSuchInn);
        check.sentence("Throws IllegalArgumentException if beds or fodder is out of range", Promise03Test::outOfRange);
        check.end();
    }

    private static void sets(Check check) {
        Run x = Run.road("1;1;");
        x.setInn(2, 6, 999, true);
        check.inn(x, 2, 6, 999, 1, 0, 0, 0, 6);
        check.inn(x, 1, 2, 100, 0, 0, 0, 0, 2);
        x.setInn(2, 0, 0, false);
        check.inn(x, 2, 0, 0, 0, 0, 0, 0, 0);
        x.setInn(2, 2, 100, false);
        check.due("state, all as before", x.state(), Run.road("1;1;").state());
    }

    private static void undoable(Check check) {
        check.undoable(Run.road("1;1;"), "setInn", x -> x.setInn(1, 4, 40, true));
        check.undoable(Run.road("1;1;"), "setInn that changes nothing", x -> x.setInn(1, 2, 100, false));
        check.undoable(TermsUndoTest.busy(), "setInn with teams", x -> x.setInn(1, 0, 0, true));
    }

    private static void eachInn(Check check) {
        for (int inn = 0; inn < 8; inn++) {
            Run x = Run.road("1;1;1;1;1;1;1;");
            x.setInn(inn, 5, 7, true);
            for (int i = 0; i < 8; i++) {
                check.inn(x, i, i == inn ? 5 : 2, i == inn ? 7 : 100, i == inn ? 1 : 0);
            }
        }
    }

    private static void beds(Check check) {
        for (int beds = 0; beds <= 6; beds++) {
            Run x = new Run();
            x.setInn(1, beds, 100, false);
            check.inn(x, 1, beds, 100, 0, 0, 0, 0, beds);
        }
    }

    private static void fodder(Check check) {
        for (int fodder : new int[] {0, 1, 99, 100, 101, 998, 999}) {
            Run x = new Run();
            x.setInn(0, 2, fodder, true);
            check.inn(x, 0, 2, fodder, 1);
        }
    }

    private static void shut(Check check) {
        Run x = new Run();
        for (boolean shut : new boolean[] {true, true, false, false, true}) {
            x.setInn(0, 2, 100, shut);
            check.inn(x, 0, 2, 100, shut ? 1 : 0);
        }
    }

    private static void previousFodder(Check check) {
        Run x = Run.road("1;1;");
        check.due("setInn(0), fodder 5", x.setInn(0, 3, 5, true), 100);
        check.due("setInn(0), fodder 999", x.setInn(0, 3, 999, true), 5);
        check.due("setInn(0), fodder 0", x.setInn(0, 6, 0, true), 999);
        check.due("setInn(0), fodder 0 again", x.setInn(0, 6, 0, true), 0);
        check.due("setInn(2), fodder 3", x.setInn(2, 6, 3, false), 100);
        x.addTeam(2, 50);
        x.pass(1);
        check.due("setInn(2) of which one was eaten", x.setInn(2, 6, 9, false), 2);
        x.undo();
        check.due("setInn(2) after undo()", x.setInn(2, 6, 9, false), 2);
    }

    private static void noSuchInn(Check check) {
        check.numbers(Run::new, "setInn", 2, (x, i) -> x.setInn(i, 1, 0, false));
        check.numbers(() -> Run.road("1;1;"), "setInn", 3, (x, i) -> x.setInn(i, 1, 0, false));
        check.numbers(() -> Run.road("1;1;1;1;1;1;1;"), "setInn", 8, (x, i) -> x.setInn(i, 1, 0, false));
        check.badIndex(new Run(), "setInn(2, 7, 1000)", x -> x.setInn(2, 7, 1000, false));
    }

    private static void outOfRange(Check check) {
        check.range(Run::new, "setInn, beds", 0, 6, (x, v) -> x.setInn(1, v, 0, false));
        for (int fodder : new int[] {0, 999}) {
            check.fits(new Run(), "setInn, fodder " + fodder, x -> x.setInn(1, 0, fodder, false));
        }
        for (int fodder : new int[] {-1, 1000, Integer.MIN_VALUE, Integer.MAX_VALUE}) {
            check.badArgument(new Run(), "setInn, fodder " + fodder, x -> x.setInn(1, 0, fodder, false));
        }
        check.badArgument(new Run(), "setInn(0, 7, -1)", x -> x.setInn(0, 7, -1, true));
    }
}
