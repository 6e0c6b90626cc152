/** Promise 5: give. */
public final class Promise05Test {
    public static void main(String[] args) {
        Check check = new Check("Promise 5");
        check.sentence("Gives a letter to an inn, now.", Promise05Test::gives);
        check.sentence("Undoable.", Promise05Test::undoable);
        check.sentence("- from: number of an inn", Promise05Test::eachWay);
        check.sentence("- to: number of another inn", Promise05Test::eachWay);
        check.sentence("- express: whether it is express", Promise05Test::express);
        check.sentence("Returns the number of the letter.", Promise05Test::numberOfTheLetter);
        check.sentence("Throws IndexOutOfBoundsException if there is no such inn", Promise05Test::noSuchInn);
        check.sentence("Throws IllegalArgumentException if both are the same", Promise05Test::bothTheSame);
        check.sentence("Throws IllegalStateException if there are 12 letters", Promise05Test::twelveLetters);
        check.end();
    }

    private static Run withLetters(int count) {
        Run x = Run.road("1;1;");
        for (int i = 0; i < count; i++) {
            x.give(1, 0, false);
        }
        return x;
    }

    private static void gives(Check check) {
        Run x = Run.road("1;1;");
        x.give(0, 2, true);
        x.pass(7);
        x.give(2, 1, false);
        check.letter(x, 0, 0, 2, 1, 0, 0, -1, -1, 0);
        check.letter(x, 1, 2, 1, 0, 7, 2, -1, -1, 0);
        check.inn(x, 2, 2, 100, 0, 0, 0, 1, 2);
        check.values(x, 3, 0, 2, 7, 0, 0, 0, 0, 0, 2, 0);
        Run late = new Run();
        late.passTo(10000);
        late.give(0, 1, false);
        check.letter(late, 0, 0, 1, 0, 10000, 0, -1, -1, 0);
    }

    private static void undoable(Check check) {
        check.undoable(new Run(), "give", x -> x.give(0, 1, false));
        check.undoable(withLetters(11), "give of the twelfth", x -> x.give(0, 2, true));
        check.undoable(TermsUndoTest.busy(), "give between busy ones", x -> x.give(1, 0, true));
    }

    private static void eachWay(Check check) {
        for (int from = 0; from < 8; from++) {
            for (int to = 0; to < 8; to++) {
                if (from != to) {
                    Run x = Run.road("1;1;1;1;1;1;1;");
                    check.due("give(" + from + ", " + to + ")", x.give(from, to, false), 0);
                    check.letter(x, 0, from, to, 0, 0, from, -1, -1, 0);
                    check.due("inn(" + from + ", 5)", x.inn(from, 5), 1);
                }
            }
        }
    }

    private static void express(Check check) {
        Run x = new Run();
        x.give(0, 1, true);
        x.give(0, 1, false);
        x.give(1, 0, true);
        check.letter(x, 0, 0, 1, 1);
        check.letter(x, 1, 0, 1, 0);
        check.letter(x, 2, 1, 0, 1);
    }

    private static void numberOfTheLetter(Check check) {
        Run x = Run.road("1;1;");
        for (int i = 0; i < 12; i++) {
            check.due("give", x.give(i % 3, (i + 1) % 3, i % 2 == 0), i);
            check.due("value(2)", x.value(2), i + 1);
            check.letter(x, i, i % 3, (i + 1) % 3, i % 2 == 0 ? 1 : 0, 0, i % 3, -1, -1, 0);
        }
        aNumberUsedAgainIsFresh(check);
    }

    private static void aNumberUsedAgainIsFresh(Check check) {
        for (int hours = 1; hours < 8; hours++) {
            Run x = Run.road("1;1;");
            x.addTeam(0, 0);
            x.give(0, 2, true);
            x.pass(hours);
            x.undo();
            x.undo();
            check.due("give", x.give(2, 1, false), 0);
            check.letter(x, 0, 2, 1, 0, 0, 2, -1, -1, 0);
        }
    }

    private static void noSuchInn(Check check) {
        check.numbers(Run::new, "give from", 2, (x, i) -> x.give(i, i == 0 ? 1 : 0, false));
        check.numbers(Run::new, "give to", 2, (x, i) -> x.give(i == 0 ? 1 : 0, i, false));
        check.numbers(() -> Run.road("1;1;1;1;1;1;1;"), "give from", 8, (x, i) -> x.give(i, i == 0 ? 1 : 0, false));
        check.numbers(() -> Run.road("1;1;1;1;1;1;1;"), "give to", 8, (x, i) -> x.give(i == 0 ? 1 : 0, i, false));
        check.badIndex(new Run(), "give(2, 2)", x -> x.give(2, 2, true));
        check.badIndex(new Run(), "give(-1, -1)", x -> x.give(-1, -1, true));
        check.badIndex(withLetters(12), "give(0, 3) with twelve letters", x -> x.give(0, 3, true));
        check.badIndex(withLetters(12), "give(3, 3) with twelve letters", x -> x.give(3, 3, true));
    }

    private static void bothTheSame(Check check) {
        for (int inn = 0; inn < 3; inn++) {
            int both = inn;
            check.badArgument(withLetters(0), "give(" + inn + ", " + inn + ")", x -> x.give(both, both, true));
            check.badArgument(withLetters(12), "give with twelve letters", x -> x.give(both, both, false));
        }
        check.fits(withLetters(0), "give(0, 1)", x -> x.give(0, 1, true));
        check.fits(withLetters(0), "give(1, 0)", x -> x.give(1, 0, true));
    }

    private static void twelveLetters(Check check) {
        check.due("give with eleven letters", withLetters(11).give(0, 1, true), 11);
        check.badState(withLetters(12), "give(0, 1) with twelve letters", x -> x.give(0, 1, true));
        check.badState(withLetters(12), "give(2, 0) with twelve letters", x -> x.give(2, 0, false));
    }
}
