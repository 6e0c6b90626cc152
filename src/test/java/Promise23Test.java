/** Promise 23: undo; TermsUndoTest tells more of the saved states. */
public final class Promise23Test {
    public static void main(String[] args) {
        Check check = new Check("Promise 23");
        check.sentence("Restores the most recently saved state", Promise23Test::mostRecent);
        check.sentence("and removes it from the saved states.", Promise23Test::removes);
        check.sentence("Returns the number of saved states that remain.", Promise23Test::remaining);
        check.sentence("Throws IllegalStateException if there is no saved state", Promise23Test::noneSaved);
        check.end();
    }

    private static void mostRecent(Check check) {
        Run x = new Run();
        x.setInn(0, 2, 1, false);
        x.setInn(0, 2, 2, false);
        x.setInn(0, 2, 3, false);
        x.undo();
        check.due("inn(0, 1)", x.inn(0, 1), 2);
        x.setInn(0, 2, 4, false);
        x.undo();
        check.due("inn(0, 1)", x.inn(0, 1), 2);
        x.undo();
        check.due("inn(0, 1)", x.inn(0, 1), 1);
        x.undo();
        check.due("inn(0, 1)", x.inn(0, 1), 100);
        acrossParse(check);
    }

    /** The road before parse() comes back with its length, its teams and its letters; and then the one before that. */
    private static void acrossParse(Check check) {
        Run x = TermsUndoTest.busy();
        Run before = x.again();
        x.clearText();
        x.append("4;");
        x.parse();
        x.addTeam(0, 9);
        check.due("undo() of addTeam()", x.undo(), 3);
        check.values(x, 2, 0, 0, 0, 0, 0, 0, 0, 0, 0, 0);
        check.due("undo() of parse()", x.undo(), 2);
        x.clearText();
        before.clearText();
        for (int hours = 0; hours < 10; hours++) {
            check.due("state " + hours + " hours behind undo() of parse()", x.state(), before.state());
            x.pass(1);
            before.pass(1);
        }
    }

    private static void removes(Check check) {
        Run x = new Run();
        for (int i = 1; i <= 3; i++) {
            x.addTeam(0, i);
        }
        for (int i = 2; i >= 0; i--) {
            x.undo();
            check.due("value(1)", x.value(1), i);
        }
        check.badState(x, "undo() of what is undone", Run::undo);
        check.due("value(1)", x.value(1), 0);
        x.addTeam(1, 5);
        check.due("undo()", x.undo(), 0);
        check.badState(x, "undo() of what is undone", Run::undo);
    }

    /** None to six undoable calls: as many as were saved, less this one. */
    private static void remaining(Check check) {
        for (int made = 1; made <= 6; made++) {
            Run x = new Run();
            for (int i = 0; i < made; i++) {
                x.pass(1);
            }
            for (int left = Math.min(4, made) - 1; left >= 0; left--) {
                check.due("undo() after " + made, x.undo(), left);
                check.due("value(3) after " + made, x.value(3), made - Math.min(4, made) + left);
            }
        }
    }

    private static void noneSaved(Check check) {
        check.badState(new Run(), "undo() of a new object", Run::undo);
        check.badState(Run.typed("1;"), "undo() with a text", Run::undo);
        for (int made = 1; made <= 5; made++) {
            Run x = new Run();
            for (int i = 0; i < made; i++) {
                x.give(0, 1, false);
            }
            while (x.undo() > 0) {
                check.holds("letters are left", x.value(2) >= made - 4);
            }
            check.due("value(2)", x.value(2), Math.max(0, made - 4));
            check.badState(x, "undo() after all of " + made, Run::undo);
        }
    }
}
