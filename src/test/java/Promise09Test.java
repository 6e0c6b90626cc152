/** Promise 9: inn. */
public final class Promise09Test {
    public static void main(String[] args) {
        Check check = new Check("Promise 9");
        check.sentence("Returns something about an inn.", Promise09Test::onlyAsks);
        check.sentence("- inn: number of an inn", Promise09Test::eachInn);
        check.sentence("- what: 0 its beds", c -> answers(c, 0, 1, 6, 2));
        check.sentence("1 its fodder", c -> answers(c, 1, 999, 49, 100));
        check.sentence("2 1 if it is shut, otherwise 0", Promise09Test::shut);
        check.sentence("3 the teams that stand there", Promise09Test::standing);
        check.sentence("4 the teams on stages to it", Promise09Test::onStagesToIt);
        check.sentence("5 the letters that lie there", Promise09Test::lying);
        check.sentence("6 the free beds (0 if there are too many teams)", Promise09Test::freeBeds);
        check.sentence("Returns that value.", Promise09Test::allValues);
        check.sentence("Throws IndexOutOfBoundsException if there is no such inn", Promise09Test::noSuchInn);
        check.sentence("Throws IllegalArgumentException if what is out of range", Promise09Test::outOfRange);
        check.end();
    }

    /** Teams at each inn, and letters to both sides of inn 1. */
    private static Run three() {
        Run x = Run.road("3;3;");
        x.setInn(1, 6, 50, false);
        x.addTeam(0, 0);
        x.addTeam(2, 0);
        x.addTeam(1, 0);
        x.addTeam(1, 12);
        x.give(0, 1, false);
        x.give(2, 1, false);
        x.give(0, 1, false);
        x.give(1, 0, false);
        x.give(1, 0, false);
        x.setInn(0, 1, 999, false);
        return x;
    }

    private static void answers(Check check, int what, int... want) {
        Run x = three();
        x.pass(1);
        for (int i = 0; i < 3; i++) {
            check.due("inn(" + i + ", " + what + ")", x.inn(i, what), want[i]);
        }
    }

    private static void onlyAsks(Check check) {
        for (int what = 0; what <= 6; what++) {
            int asked = what;
            check.changesNothing(TermsUndoTest.busy(), "inn(1, " + what + ")", x -> x.inn(1, asked));
        }
    }

    private static void eachInn(Check check) {
        Run x = Run.road("1;1;1;1;1;1;1;");
        for (int i = 0; i < 8; i++) {
            x.setInn(i, i % 7, 100 + i, i % 2 == 1);
            x.addTeam(i, 0);
        }
        for (int i = 0; i < 8; i++) {
            check.inn(x, i, i % 7, 100 + i, i % 2, 1, 0, 0, Math.max(0, i % 7 - 1));
        }
    }

    private static void shut(Check check) {
        Run x = three();
        check.due("inn(1, 2)", x.inn(1, 2), 0);
        x.setInn(1, 6, 50, true);
        check.due("inn(1, 2)", x.inn(1, 2), 1);
        check.due("inn(0, 2)", x.inn(0, 2), 0);
    }

    private static void standing(Check check) {
        answers(check, 3, 0, 1, 0);
        Run x = new Run();
        for (int teams = 0; teams <= 10; teams++) {
            check.due("inn(1, 3)", x.inn(1, 3), teams);
            if (teams < 10) {
                x.addTeam(1, 0);
            }
        }
        check.due("inn(0, 3)", x.inn(0, 3), 0);
    }

    private static void onStagesToIt(Check check) {
        answers(check, 4, 1, 2, 0);
        Run walking = Run.road("1;");
        walking.addTeam(0, 0);
        walking.give(0, 1, false);
        walking.pass(3);
        check.inn(walking, 0, 2, 100, 0, 0, 1, 0, 1);
        check.inn(walking, 1, 2, 99, 0, 0, 0, 0, 2);
    }

    /** Not those on stages to it, and not those that were delivered there. */
    private static void lying(Check check) {
        answers(check, 5, 1, 1, 0);
        Run x = three();
        x.pass(4);
        check.due("value(4)", x.value(4), 3);
        check.due("inn(1, 5)", x.inn(1, 5), 0);
        Run twelve = new Run();
        for (int i = 1; i <= 12; i++) {
            twelve.give(1, 0, false);
            check.due("inn(1, 5)", twelve.inn(1, 5), i);
        }
        check.due("inn(0, 5)", twelve.inn(0, 5), 0);
    }

    private static void freeBeds(Check check) {
        for (int beds = 0; beds <= 6; beds++) {
            Run x = new Run();
            x.setInn(0, beds, 0, false);
            for (int teams = 0; teams <= 10; teams++) {
                check.due("inn(0, 6) of " + beds + " with " + teams, x.inn(0, 6), Math.max(0, beds - teams));
                if (teams < 10) {
                    x.addTeam(0, 0);
                }
            }
        }
        answers(check, 6, 0, 3, 2);
    }

    private static void allValues(Check check) {
        Run x = three();
        check.inn(x, 0, 1, 999, 0, 1, 0, 2, 0);
        check.inn(x, 1, 6, 50, 0, 2, 0, 2, 4);
        check.inn(x, 2, 2, 100, 0, 1, 0, 1, 1);
        x.pass(1);
        check.inn(x, 0, 1, 999, 0, 0, 1, 1, 0);
        check.inn(x, 1, 6, 49, 0, 1, 2, 1, 3);
        check.inn(x, 2, 2, 100, 0, 0, 0, 0, 2);
        x.setInn(1, 2, 7, true);
        check.inn(x, 1, 2, 7, 1, 1, 2, 1, 0);
    }

    private static void noSuchInn(Check check) {
        check.numbers(Run::new, "inn", 2, (x, i) -> x.inn(i, 0));
        check.numbers(Promise09Test::three, "inn", 3, (x, i) -> x.inn(i, 6));
        check.badIndex(three(), "inn(3, 7)", x -> x.inn(3, 7));
        check.badIndex(three(), "inn(-1, -1)", x -> x.inn(-1, -1));
    }

    private static void outOfRange(Check check) {
        check.range(Promise09Test::three, "inn, what", 0, 6, (x, v) -> x.inn(2, v));
    }
}
