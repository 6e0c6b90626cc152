/** Promise 11: letter. */
public final class Promise11Test {
    public static void main(String[] args) {
        Check check = new Check("Promise 11");
        check.sentence("Returns something about a letter.", Promise11Test::onlyAsks);
        check.sentence("- letter: number of a letter", Promise11Test::eachLetter);
        check.sentence("- what: 0 the inn where it began", c -> answers(c, 0, 2, 2, 2, 2));
        check.sentence("1 the inn to which it goes", c -> answers(c, 1, 0, 0, 0, 0));
        check.sentence("2 1 if it is express, otherwise 0", Promise11Test::express);
        check.sentence("3 the hour at which it was given", Promise11Test::given);
        check.sentence("4 the inn where it lies, or to which it is on a stage, or to which it was delivered",
            c -> answers(c, 4, 2, 1, 0, 0));
        check.sentence("5 the team that has it (NONE without one)", Promise11Test::teamThatHasIt);
        check.sentence("6 the hour that began when it was delivered (NONE before)", c -> answers(c, 6, -1, -1, -1, 9));
        check.sentence("7 how often a team has gone on a stage with it so far", Promise11Test::howOften);
        check.sentence("Returns that value.", Promise11Test::allValues);
        check.sentence("Throws IndexOutOfBoundsException if there is no such letter", Promise11Test::noSuchLetter);
        check.sentence("Throws IllegalArgumentException if what is out of range", Promise11Test::outOfRange);
        check.end();
    }

    /** Given at the hour 5 at inn 2 for inn 0, with a team at the inns 1 and 2; another letter the other way. */
    private static Run after(int hours) {
        Run x = Run.road("2;1;");
        x.addTeam(1, 0);
        x.addTeam(2, 0);
        x.pass(5);
        x.give(2, 0, true);
        x.give(0, 2, false);
        if (hours > 0) {
            x.pass(hours);
        }
        return x;
    }

    /** After no hour, 1, 2 and 4 of them. */
    private static void answers(Check check, int what, int... want) {
        int[] hours = {0, 1, 2, 4};
        for (int i = 0; i < 4; i++) {
            check.due("letter(0, " + what + ") after " + hours[i], after(hours[i]).letter(0, what), want[i]);
        }
    }

    private static void onlyAsks(Check check) {
        for (int what = 0; what <= 7; what++) {
            int asked = what;
            check.changesNothing(TermsUndoTest.busy(), "letter(1, " + what + ")", x -> x.letter(1, asked));
        }
    }

    private static void eachLetter(Check check) {
        Run x = Run.road("1;1;1;1;1;1;1;");
        for (int i = 0; i < 12; i++) {
            x.give(i % 8, (i + 3) % 8, i % 3 == 0);
        }
        for (int i = 0; i < 12; i++) {
            check.letter(x, i, i % 8, (i + 3) % 8, i % 3 == 0 ? 1 : 0, 0, i % 8, -1, -1, 0);
        }
    }

    private static void express(Check check) {
        answers(check, 2, 1, 1, 1, 1);
        check.due("letter(1, 2)", after(3).letter(1, 2), 0);
    }

    private static void given(Check check) {
        answers(check, 3, 5, 5, 5, 5);
        Run x = new Run();
        x.give(0, 1, false);
        x.passTo(9999);
        x.give(0, 1, false);
        x.pass(1);
        x.give(0, 1, false);
        int[] want = {0, 9999, 10000};
        for (int i = 0; i < 3; i++) {
            check.due("letter(" + i + ", 3)", x.letter(i, 3), want[i]);
        }
    }

    /** Any of ten; none while it lies and when it is delivered. */
    private static void teamThatHasIt(Check check) {
        answers(check, 5, -1, 1, 0, -1);
        for (int rested = 0; rested < 10; rested++) {
            Run x = Run.road("1;");
            for (int i = 0; i < 10; i++) {
                x.addTeam(0, i == rested ? 0 : 50);
            }
            x.give(0, 1, false);
            x.pass(1);
            check.due("letter(0, 5)", x.letter(0, 5), rested);
            x.pass(1);
            check.due("letter(0, 5) when it is delivered", x.letter(0, 5), -1);
        }
    }

    /** Once each stage, when a team goes; seven times from end to end. */
    private static void howOften(Check check) {
        answers(check, 7, 0, 1, 2, 2);
        Run x = Run.road("1;1;1;1;1;1;1;");
        x.addTeam(0, 0);
        x.give(0, 7, false);
        check.due("letter(0, 7)", x.letter(0, 7), 0);
        for (int hours = 1; hours <= 8; hours++) {
            x.pass(1);
            check.due("letter(0, 7) after " + hours, x.letter(0, 7), Math.min(7, hours));
        }
        check.due("letter(0, 6)", x.letter(0, 6), 8);
    }

    private static void allValues(Check check) {
        Run x = after(0);
        check.letter(x, 0, 2, 0, 1, 5, 2, -1, -1, 0);
        check.letter(x, 1, 0, 2, 0, 5, 0, -1, -1, 0);
        x.pass(1);
        check.letter(x, 0, 2, 0, 1, 5, 1, 1, -1, 1);
        x.pass(1);
        check.letter(x, 0, 2, 0, 1, 5, 0, 0, -1, 2);
        x.pass(1);
        check.letter(x, 0, 2, 0, 1, 5, 0, 0, -1, 2);
        check.due("pass(1)", x.pass(1), 1);
        check.letter(x, 0, 2, 0, 1, 5, 0, -1, 9, 2);
        check.letter(x, 1, 0, 2, 0, 5, 1, 0, -1, 1);
        check.due("pass(3)", x.pass(3), 1);
        check.letter(x, 1, 0, 2, 0, 5, 2, -1, 12, 2);
        check.letter(x, 0, 2, 0, 1, 5, 0, -1, 9, 2);
    }

    private static void noSuchLetter(Check check) {
        check.numbers(Run::new, "letter", 0, (x, i) -> x.letter(i, 0));
        check.numbers(() -> after(1), "letter", 2, (x, i) -> x.letter(i, 0));
        check.badIndex(after(4), "letter(2, 8)", x -> x.letter(2, 8));
        check.badIndex(after(4), "letter(-1, -1)", x -> x.letter(-1, -1));
        Run x = after(4);
        x.collect();
        check.fits(x, "letter(0, 0) after collect()", r -> r.letter(0, 0));
        check.badIndex(x, "letter(1, 0) after collect()", r -> r.letter(1, 0));
    }

    private static void outOfRange(Check check) {
        check.range(() -> after(4), "letter, what", 0, 7, (x, v) -> x.letter(1, v));
    }
}
