/** Promise 6: collect. */
public final class Promise06Test {
    public static void main(String[] args) {
        Check check = new Check("Promise 6");
        check.sentence("Takes the delivered letters away", Promise06Test::takesTheDelivered);
        check.sentence("the numbers of the others become smaller accordingly.", Promise06Test::smallerNumbers);
        check.sentence("Undoable.", Promise06Test::undoable);
        check.sentence("Returns the number of letters that are taken away.", Promise06Test::numberTaken);
        check.end();
    }

    /** Letters 0 and 2 are delivered at the hour 2, letter 1 is on a stage with the team 2, letter 3 lies. */
    private static Run twoOfFour() {
        Run x = Run.road("1;9;");
        x.setInn(1, 6, 100, false);
        x.addTeam(0, 0);
        x.addTeam(0, 0);
        x.addTeam(1, 0);
        x.give(0, 1, false);
        x.give(1, 2, true);
        x.give(0, 1, false);
        x.give(2, 0, true);
        x.pass(2);
        return x;
    }

    /** The counts of delivered letters stay. */
    private static void takesTheDelivered(Check check) {
        Run x = twoOfFour();
        check.values(x, 3, 3, 4, 2, 2, 4, 0, 0, 0, 1, 1);
        x.collect();
        check.values(x, 3, 3, 2, 2, 2, 4, 0, 0, 0, 1, 1);
        check.badIndex(x, "letter(2, 0)", r -> r.letter(2, 0));
        check.due("collect() again", x.collect(), 0);
        check.values(x, 3, 3, 2, 2, 2, 4, 0, 0, 0, 1, 1);
    }

    private static void smallerNumbers(Check check) {
        Run x = twoOfFour();
        x.collect();
        check.letter(x, 0, 1, 2, 1, 0, 2, 2, -1, 1);
        check.letter(x, 1, 2, 0, 1, 0, 2, -1, -1, 0);
        check.due("team(2, 4)", x.team(2, 4), 0);
        check.due("team(0, 4)", x.team(0, 4), -1);
        check.due("give takes the next number", x.give(0, 1, false), 2);
        check.letter(x, 2, 0, 1, 0, 2, 0, -1, -1, 0);
        eachKeepsItsOwn(check);
        deliveredAfterwards(check);
        byManyAtOnce(check);
    }

    /** Each that moves keeps all of its own: when it was given, where it lies, who has it. */
    private static void eachKeepsItsOwn(Check check) {
        Run x = Run.road("1;9;");
        x.addTeam(0, 0);
        x.addTeam(2, 0);
        x.give(0, 1, true);
        x.pass(3);
        x.give(2, 0, false);
        x.pass(4);
        x.give(1, 2, true);
        check.letter(x, 0, 0, 1, 1, 0, 1, -1, 2, 1);
        check.letter(x, 1, 2, 0, 0, 3, 1, 1, -1, 1);
        check.letter(x, 2, 1, 2, 1, 7, 1, -1, -1, 0);
        x.collect();
        check.letter(x, 0, 2, 0, 0, 3, 1, 1, -1, 1);
        check.letter(x, 1, 1, 2, 1, 7, 1, -1, -1, 0);
        check.due("team(1, 4)", x.team(1, 4), 0);
    }

    /** The team that has a letter brings it under its new number, and its old number's new letter stays. */
    private static void deliveredAfterwards(Check check) {
        Run x = twoOfFour();
        x.collect();
        x.setInn(0, 6, 100, true);
        x.give(1, 0, false);
        check.due("pass(7)", x.pass(7), 0);
        check.due("pass(1)", x.pass(1), 1);
        check.letter(x, 0, 1, 2, 1, 0, 2, -1, 10, 1);
        check.due("collect()", x.collect(), 1);
        check.letter(x, 1, 1, 0, 0, 2, 1, -1, -1, 0);
        check.due("hoursTo(1) of the one that is not shut in", x.hoursTo(1), -1);
    }

    /** The letters 0 to 5 are delivered; 6 to 11 are on stages, each with a team. */
    private static void byManyAtOnce(Check check) {
        Run x = Run.road("1;9;");
        x.setInn(1, 6, 100, false);
        x.setInn(2, 6, 100, false);
        for (int i = 0; i < 6; i++) {
            x.addTeam(0, 0);
        }
        for (int i = 0; i < 12; i++) {
            x.give(i < 6 ? 0 : 1, i < 6 ? 1 : 2, i < 6);
        }
        x.pass(3);
        check.due("value(10)", x.value(10), 6);
        check.due("collect()", x.collect(), 6);
        for (int i = 0; i < 6; i++) {
            check.letter(x, i, 1, 2, 0, 0, 2, i, -1, 1);
            check.due("team(" + i + ", 4)", x.team(i, 4), i);
        }
        check.badIndex(x, "letter(6, 0)", r -> r.letter(6, 0));
        check.due("pass(9)", x.pass(9), 6);
        check.due("collect() of all", x.collect(), 6);
        check.values(x, 3, 6, 0, 12, 12, 6 * 2 + 6 * 11, 6, 12);
    }

    private static void undoable(Check check) {
        check.undoable(new Run(), "collect without letters", Run::collect);
        check.undoable(twoOfFour(), "collect of two", Run::collect);
        Run x = twoOfFour();
        x.collect();
        check.undoable(x, "collect that takes none", Run::collect);
        x.undo();
        check.letter(x, 2, 0, 1, 0, 0, 1, -1, 2, 1);
        check.due("team(2, 4)", x.team(2, 4), 1);
    }

    private static void numberTaken(Check check) {
        check.due("collect() without letters", new Run().collect(), 0);
        Run none = new Run();
        for (int i = 0; i < 12; i++) {
            none.give(i % 2, 1 - i % 2, false);
        }
        check.due("collect() of twelve that lie", none.collect(), 0);
        check.due("value(2)", none.value(2), 12);
        none.addTeam(0, 0);
        none.pass(1);
        check.due("collect() with one on a stage", none.collect(), 0);
        none.pass(2);
        check.due("collect() with one delivered", none.collect(), 1);
        check.due("value(2)", none.value(2), 11);
        allTwelve(check);
    }

    private static void allTwelve(Check check) {
        Run x = Run.road("1;");
        x.addTeam(0, 0);
        for (int i = 0; i < 12; i++) {
            x.give(0, 1, false);
        }
        check.due("pass(200)", x.pass(200), 12);
        check.due("collect() of twelve", x.collect(), 12);
        check.due("value(2)", x.value(2), 0);
        check.due("give", x.give(0, 1, false), 0);
    }
}
