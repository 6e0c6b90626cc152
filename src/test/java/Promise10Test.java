/** Promise 10: team; the tests of an hour's parts ask more of its values. */
public final class Promise10Test {
    public static void main(String[] args) {
        Check check = new Check("Promise 10");
        check.sentence("Returns something about a team.", Promise10Test::onlyAsks);
        check.sentence("- team: number of a team", Promise10Test::eachTeam);
        check.sentence("- what: 0 its home", c -> answers(c, 0, 0, 0, 0, 0));
        check.sentence("1 its tiredness", c -> answers(c, 1, 14, 28, 0, 0));
        check.sentence("2 the inn where it stands, or the one to which it is on a stage", c -> answers(c, 2, 1, 1, 0, 0));
        check.sentence("3 the hours left on a stage (0 at an inn)", c -> answers(c, 3, 2, 0, 4, 0));
        check.sentence("4 the letter that it has (NONE without one)", Promise10Test::letterThatItHas);
        check.sentence("5 1 if it walks back, otherwise 0", c -> answers(c, 5, 0, 0, 1, 0));
        check.sentence("6 the stages that it has run with letters so far", c -> answers(c, 6, 0, 1, 1, 1));
        check.sentence("7 the efforts of these together (also where 100 was the bound)", Promise10Test::efforts);
        check.sentence("8 the stages that it has walked back so far", c -> answers(c, 8, 0, 0, 0, 1));
        check.sentence("(6 to 8: those at whose end it has come)", Promise10Test::atWhoseEnd);
        check.sentence("9 the fodder that it has eaten so far", c -> answers(c, 9, 1, 1, 6, 6));
        check.sentence("Returns that value.", Promise10Test::allValues);
        check.sentence("Throws IndexOutOfBoundsException if there is no such team", Promise10Test::noSuchTeam);
        check.sentence("Throws IllegalArgumentException if what is out of range", Promise10Test::outOfRange);
        check.end();
    }

    /** Of inn 0 with a tiredness of 20, a letter to inn 1 over a hill of two hours: it goes, comes, walks, is home. */
    private static Run after(int hours) {
        Run x = Run.road("2+1;");
        x.addTeam(0, 20);
        x.give(0, 1, false);
        x.pass(hours);
        return x;
    }

    /** After the hours 1, 3, 8 and 12. */
    private static void answers(Check check, int what, int... want) {
        int[] hours = {1, 3, 8, 12};
        for (int i = 0; i < 4; i++) {
            check.due("team(0, " + what + ") after " + hours[i], after(hours[i]).team(0, what), want[i]);
        }
    }

    private static void onlyAsks(Check check) {
        for (int what = 0; what <= 9; what++) {
            int asked = what;
            check.changesNothing(TermsUndoTest.busy(), "team(1, " + what + ")", x -> x.team(1, asked));
        }
    }

    private static void eachTeam(Check check) {
        Run x = Run.road("1;1;1;1;1;1;1;");
        for (int i = 0; i < 10; i++) {
            x.addTeam(i % 8, 10 * i);
        }
        for (int i = 0; i < 10; i++) {
            check.team(x, i, i % 8, 10 * i, i % 8, 0, -1, 0, 0, 0, 0, 0);
        }
    }

    /** Any of twelve; none when it has come, walks back or stands. */
    private static void letterThatItHas(Check check) {
        answers(check, 4, 0, -1, -1, -1);
        for (int express = 0; express < 12; express++) {
            Run x = new Run();
            x.addTeam(0, 0);
            for (int i = 0; i < 12; i++) {
                x.give(0, 1, i == express);
            }
            check.due("team(0, 4) ahead of the hour", x.team(0, 4), -1);
            x.pass(1);
            check.due("team(0, 4)", x.team(0, 4), express);
        }
    }

    private static void efforts(Check check) {
        answers(check, 7, 0, 14, 14, 14);
        Run x = Run.road("1;");
        x.setInn(0, 2, 0, false);
        x.addTeam(0, 91);
        x.give(0, 1, false);
        x.pass(1);
        x.setStage(0, 9, 5, false);
        x.pass(1);
        check.team(x, 0, 0, 100, 1, 0, -1, 0, 1, 65, 0, 0);
        x.setStage(0, 1, -1, false);
        x.setInn(0, 2, 100, false);
        x.give(1, 0, false);
        x.pass(200);
        check.team(x, 0, 0, 0, 0, 0, -1, 0, 2, 65 + 9, 0);
    }

    /** An hour ahead of the end they count nothing. */
    private static void atWhoseEnd(Check check) {
        check.team(after(2), 0, 0, 14, 1, 1, 0, 0, 0, 0, 0, 1);
        check.team(after(3), 0, 0, 28, 1, 0, -1, 0, 1, 14, 0, 1);
        check.team(after(11), 0, 0, 0, 0, 1, -1, 1, 1, 14, 0, 6);
        check.team(after(12), 0, 0, 0, 0, 0, -1, 0, 1, 14, 1, 6);
        check.team(after(200), 0, 0, 0, 0, 0, -1, 0, 1, 14, 1, 6);
    }

    private static void allValues(Check check) {
        Run x = Run.road("2+1;1;");
        x.addTeam(1, 20);
        x.addTeam(0, 3);
        x.give(2, 1, false);
        x.give(0, 2, false);
        check.team(x, 0, 1, 20, 1, 0, -1, 0, 0, 0, 0, 0);
        check.team(x, 1, 0, 3, 0, 0, -1, 0, 0, 0, 0, 0);
        x.pass(1);
        check.team(x, 0, 1, 14, 1, 0, -1, 0, 0, 0, 0, 1);
        check.team(x, 1, 0, 0, 1, 2, 1, 0, 0, 0, 0, 1);
        x.pass(2);
        check.team(x, 0, 1, 2, 2, 1, 1, 0, 0, 0, 0, 3);
        check.team(x, 1, 0, 14, 1, 0, -1, 0, 1, 14, 0, 1);
        x.pass(1);
        check.team(x, 0, 1, 7, 1, 1, 0, 0, 1, 5, 0, 3);
        x.pass(1);
        check.team(x, 0, 1, 12, 1, 0, -1, 0, 2, 10, 0, 3);
        x.pass(4);
        check.team(x, 0, 1, 0, 1, 0, -1, 0, 2, 10, 0, 5);
        check.team(x, 1, 0, 0, 0, 1, -1, 1, 1, 14, 0, 4);
        x.pass(1);
        check.team(x, 1, 0, 0, 0, 0, -1, 0, 1, 14, 1, 4);
    }

    private static void noSuchTeam(Check check) {
        check.numbers(Run::new, "team", 0, (x, i) -> x.team(i, 0));
        check.numbers(() -> after(1), "team", 1, (x, i) -> x.team(i, 0));
        check.numbers(() -> Promise04Test.withTeams(10), "team", 10, (x, i) -> x.team(i, 9));
        check.badIndex(after(1), "team(1, 10)", x -> x.team(1, 10));
        check.badIndex(after(1), "team(-1, -1)", x -> x.team(-1, -1));
    }

    private static void outOfRange(Check check) {
        check.range(() -> after(1), "team, what", 0, 9, (x, v) -> x.team(0, v));
    }
}
