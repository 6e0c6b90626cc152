/** The term "Letters". */
public final class TermsLettersTest {
    public static void main(String[] args) {
        Check check = new Check("Letters");
        check.sentence("There are at most 12 letters", TermsLettersTest::atMostTwelve);
        check.sentence("numbered from 0", TermsLettersTest::fromZero);
        check.sentence("A letter has an inn where it began, an inn to which it goes, is express or not, and the hour at "
            + "which it was given.", TermsLettersTest::whatItHas);
        check.sentence("It lies at an inn, is on a stage with a team, or is delivered", TermsLettersTest::oneOfThree);
        check.sentence("when it comes to its inn", TermsLettersTest::deliveredAtItsInn);
        check.end();
    }

    private static Run withLetters(int count) {
        Run x = Run.road("1;1;");
        for (int i = 0; i < count; i++) {
            x.give(i % 3, (i + 1) % 3, i % 2 == 0);
        }
        return x;
    }

    private static void atMostTwelve(Check check) {
        for (int count = 0; count <= 11; count++) {
            check.due("give with " + count + " letters", withLetters(count).give(0, 1, true), count);
        }
        Run full = withLetters(12);
        check.due("value(2)", full.value(2), 12);
        check.badState(full, "give with 12 letters", x -> x.give(0, 1, true));
        full.undo();
        check.due("give after undo()", full.give(0, 1, true), 11);
        check.badState(full, "give with 12 letters again", x -> x.give(0, 1, true));
        deliveredOnesCount(check);
    }

    /** A delivered letter keeps its place until collect(). */
    private static void deliveredOnesCount(Check check) {
        Run x = withLetters(12);
        x.addTeam(0, 0);
        x.pass(2);
        check.due("value(4)", x.value(4), 1);
        check.badState(x, "give with 12 letters, one delivered", r -> r.give(0, 1, true));
        check.due("collect()", x.collect(), 1);
        check.due("give with 11 letters", x.give(0, 1, true), 11);
        check.badState(x, "give with 12 letters after collect()", r -> r.give(0, 1, true));
    }

    private static void fromZero(Check check) {
        for (int count : new int[] {0, 1, 11, 12}) {
            check.numbers(() -> withLetters(count), "letter of " + count, count, (x, i) -> x.letter(i, 0));
        }
    }

    private static void whatItHas(Check check) {
        Run x = withLetters(11);
        x.pass(5);
        x.give(2, 0, false);
        for (int i = 0; i < 11; i++) {
            check.letter(x, i, i % 3, (i + 1) % 3, i % 2 == 0 ? 1 : 0, 0);
        }
        check.letter(x, 11, 2, 0, 0, 5);
    }

    private static void oneOfThree(Check check) {
        Run x = Run.road("2;1;");
        for (int i = 0; i < 3; i++) {
            x.setInn(i, 4, 100, false);
        }
        for (int i = 0; i < 6; i++) {
            x.addTeam(i % 3, 8 * i);
            x.give(i % 3, (i + 1 + i / 3) % 3, i % 2 == 0);
        }
        for (int hour = 0; hour < 25; hour++) {
            int delivered = 0;
            for (int i = 0; i < 6; i++) {
                delivered += x.letter(i, 6) == -1 ? 0 : 1;
            }
            check.due("letters that lie", x.value(9), x.inn(0, 5) + x.inn(1, 5) + x.inn(2, 5));
            check.due("all letters", x.value(9) + x.value(10) + delivered, 6);
            x.pass(1);
        }
        check.due("value(4)", x.value(4), 6);
    }

    /** At the inn on its way it is not delivered, at its own it is, though the road goes on. */
    private static void deliveredAtItsInn(Check check) {
        Run x = Run.road("1;1;1;");
        x.addTeam(0, 0);
        x.give(0, 2, false);
        x.setStage(1, 1, 0, true);
        check.due("pass(2)", x.pass(2), 0);
        check.letter(x, 0, 0, 2, 0, 0, 1, -1, -1, 1);
        check.inn(x, 1, 2, 100, 0, 1, 0, 1);
        x.setStage(1, 1, 0, false);
        check.due("pass(1)", x.pass(1), 0);
        check.letter(x, 0, 0, 2, 0, 0, 2, 0, -1, 2);
        check.due("pass(1)", x.pass(1), 1);
        check.letter(x, 0, 0, 2, 0, 0, 2, -1, 4, 2);
        check.inn(x, 2, 2, 100, 0, 1, 0, 0);
        check.due("pass(9)", x.pass(9), 0);
        check.letter(x, 0, 0, 2, 0, 0, 2, -1, 4, 2);
    }
}
