/** Promise 1: a new object. */
public final class Promise01Test {
    public static void main(String[] args) {
        Check check = new Check("Promise 1");
        check.sentence("Creates a road of two inns", Promise01Test::twoInns);
        check.sentence("without teams and letters", Promise01Test::withoutTeamsAndLetters);
        check.sentence("at the hour 0.", Promise01Test::atTheHourZero);
        check.end();
    }

    private static void twoInns(Check check) {
        Run x = new Run();
        check.due("value(0)", x.value(0), 2);
        check.stage(x, 0, 2, 0, 0, 10, 10, 0);
        check.inn(x, 0, 2, 100, 0, 0, 0, 0, 2);
        check.inn(x, 1, 2, 100, 0, 0, 0, 0, 2);
        check.badIndex(x, "stage(1, 0)", r -> r.stage(1, 0));
        check.badIndex(x, "inn(2, 0)", r -> r.inn(2, 0));
        check.due("clearText()", x.clearText(), 0);
        twoObjectsShareNothing(check);
    }

    private static void twoObjectsShareNothing(Check check) {
        Run one = new Run();
        Run other = new Run();
        long fresh = other.digest();
        one.setStage(0, 9, 5, true);
        one.setInn(0, 6, 999, true);
        one.addTeam(0, 50);
        one.give(0, 1, true);
        one.append('1');
        one.pass(3);
        check.due("digest() of another object", other.digest(), fresh);
        check.due("digest() of a later object", new Run().digest(), fresh);
    }

    private static void withoutTeamsAndLetters(Check check) {
        Run x = new Run();
        check.due("value(1)", x.value(1), 0);
        check.due("value(2)", x.value(2), 0);
        check.numbers(Run::new, "team of a new road", 0, (r, i) -> r.team(i, 0));
        check.numbers(Run::new, "letter of a new road", 0, (r, i) -> r.letter(i, 0));
        check.due("addTeam(0, 0)", x.addTeam(0, 0), 0);
        check.due("give(0, 1)", x.give(0, 1, false), 0);
    }

    private static void atTheHourZero(Check check) {
        Run x = new Run();
        check.values(x, 2, 0, 0, 0, 0, 0, 0, 0, 0, 0, 0);
        check.badState(x, "undo()", Run::undo);
        x.give(0, 1, false);
        check.due("letter(0, 3)", x.letter(0, 3), 0);
    }
}
