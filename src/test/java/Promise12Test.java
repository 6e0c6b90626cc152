/** Promise 12: value. */
public final class Promise12Test {
    public static void main(String[] args) {
        Check check = new Check("Promise 12");
        check.sentence("Returns a number.", Promise12Test::onlyAsks);
        check.sentence("- what: 0 the inns", Promise12Test::inns);
        check.sentence("1 the teams", Promise12Test::teams);
        check.sentence("2 the letters", Promise12Test::letters);
        check.sentence("3 the hour", c -> answers(c, 3, 2, 3, 4, 5, 6, 7));
        check.sentence("4 the letters delivered so far", c -> answers(c, 4, 0, 0, 1, 2, 3, 4));
        check.sentence("5 the hours that these took together (for each, the hour that began when it was delivered, minus "
            + "the one at which it was given)", c -> answers(c, 5, 0, 0, 2, 5, 9, 14));
        check.sentence("6 the express ones delivered so far", c -> answers(c, 6, 0, 0, 0, 1, 1, 2));
        check.sentence("7 their hours", c -> answers(c, 7, 0, 0, 0, 3, 3, 8));
        check.sentence("8 the fodder eaten so far", c -> answers(c, 8, 4, 5, 5, 6, 7, 9));
        check.sentence("9 the letters that lie at inns now", c -> answers(c, 9, 4, 1, 1, 1, 0, 0));
        check.sentence("10 those on stages", c -> answers(c, 10, 0, 3, 2, 1, 1, 0));
        check.sentence("Returns that number.", Promise12Test::allValues);
        check.sentence("Throws IllegalArgumentException if what is out of range", Promise12Test::outOfRange);
        check.end();
    }

    /** Three teams and four letters, two of them express, given at the hour 2 and all delivered at the hour 7. */
    private static Run at(int hour) {
        Run x = Run.road("2;1;");
        x.addTeam(0, 10);
        x.addTeam(0, 0);
        x.addTeam(1, 13);
        x.pass(2);
        x.give(0, 1, true);
        x.give(1, 2, false);
        x.give(2, 1, true);
        x.give(0, 2, false);
        x.passTo(hour);
        return x;
    }

    private static void answers(Check check, int what, int... want) {
        for (int i = 0; i < 6; i++) {
            check.due("value(" + what + ") at the hour " + (i + 2), at(i + 2).value(what), want[i]);
        }
    }

    private static void onlyAsks(Check check) {
        for (int what = 0; what <= 10; what++) {
            int asked = what;
            check.changesNothing(TermsUndoTest.busy(), "value(" + what + ")", x -> x.value(asked));
        }
    }

    private static void inns(Check check) {
        for (int inns = 2; inns <= 8; inns++) {
            check.due("value(0)", Run.road("1;".repeat(inns - 1)).value(0), inns);
        }
    }

    private static void teams(Check check) {
        Run x = new Run();
        for (int i = 1; i <= 10; i++) {
            x.addTeam(0, 0);
            check.due("value(1)", x.value(1), i);
        }
        check.badState(x, "addTeam", r -> r.addTeam(0, 0));
        x.undo();
        check.due("value(1)", x.value(1), 9);
    }

    /** The delivered ones too, until collect() takes them away. */
    private static void letters(Check check) {
        Run x = new Run();
        for (int i = 1; i <= 12; i++) {
            x.give(0, 1, false);
            check.due("value(2)", x.value(2), i);
        }
        check.values(x, 2, 0, 12, 0, 0, 0, 0, 0, 0, 12, 0);
        x.addTeam(0, 0);
        x.pass(3);
        check.values(x, 2, 1, 12, 3, 1, 3, 0, 0, 0, 11, 0);
        x.collect();
        check.values(x, 2, 1, 11, 3, 1, 3, 0, 0, 0, 11, 0);
    }

    private static void allValues(Check check) {
        check.values(at(2), 3, 3, 4, 2, 0, 0, 0, 0, 4, 4, 0);
        check.values(at(3), 3, 3, 4, 3, 0, 0, 0, 0, 5, 1, 3);
        check.values(at(4), 3, 3, 4, 4, 1, 2, 0, 0, 5, 1, 2);
        check.values(at(5), 3, 3, 4, 5, 2, 5, 1, 3, 6, 1, 1);
        check.values(at(6), 3, 3, 4, 6, 3, 9, 1, 3, 7, 0, 1);
        check.values(at(7), 3, 3, 4, 7, 4, 14, 2, 8, 9, 0, 0);
        Run x = at(7);
        check.due("collect()", x.collect(), 4);
        check.values(x, 3, 3, 0, 7, 4, 14, 2, 8, 9, 0, 0);
    }

    private static void outOfRange(Check check) {
        check.range(Run::new, "value", 0, 10, (x, v) -> x.value(v));
        check.range(() -> at(5), "value", 0, 10, (x, v) -> x.value(v));
    }
}
