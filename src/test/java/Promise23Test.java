/** Promise 23: undo. */
public final class Promise23Test {
    public static void main(String[] args) {
        Check check = new Check("Promise23Test");
        atMostFour(check);
        eachUndoable(check);
        questionsSaveNothing(check);
        theTextIsNotSaved(check);
        savedStatesAreKeptApart(check);
        theDirectionComesBack(check);
        check.end();
    }

    private static void atMostFour(Check check) {
        PostRoad x = new PostRoad();
        check.badState(x, "undo() of a new object", x::undo);
        for (int i = 1; i <= 6; i++) {
            x.setInn(0, 2, i, false);
        }
        for (int left = 3; left >= 0; left--) {
            check.due("undo()", x.undo(), left);
            check.due("inn(0, 1)", x.inn(0, 1), left + 2);
        }
        check.badState(x, "undo() without a saved state", x::undo);
        x.setInn(0, 2, 77, false);
        x.setInn(0, 2, 78, false);
        check.due("undo()", x.undo(), 1);
        check.due("inn(0, 1)", x.inn(0, 1), 77);
        x.setInn(0, 2, 79, false);
        check.due("undo()", x.undo(), 1);
        check.due("undo()", x.undo(), 0);
        check.due("inn(0, 1)", x.inn(0, 1), 2);
    }

    private static void eachUndoable(Check check) {
        PostRoad x = Check.road("2;3;");
        x.undo();
        check.due("parse()", x.parse(), 3);
        x.setStage(0, 2, 0, false);
        x.collect();
        x.pass(1);
        check.due("undo() with four saved", x.undo(), 3);
        x.addTeam(0, 0);
        check.due("undo()", x.undo(), 3);
        x.give(0, 1, false);
        check.due("undo()", x.undo(), 3);
        x.setInn(0, 0, 0, false);
        check.due("undo()", x.undo(), 3);
        check.due("undo() of collect()", x.undo(), 2);
        check.due("undo() of setStage()", x.undo(), 1);
        check.due("value(0)", x.value(0), 3);
        check.due("undo() of parse()", x.undo(), 0);
        check.due("value(0)", x.value(0), 2);
    }

    private static void questionsSaveNothing(Check check) {
        PostRoad x = new PostRoad();
        x.addTeam(0, 0);
        x.give(0, 1, false);
        x.stage(0, 0);
        x.inn(0, 0);
        x.team(0, 0);
        x.letter(0, 0);
        x.value(0);
        x.why(0);
        x.hoursTo(0);
        x.hoursToAll();
        x.bestInn();
        x.way(0, 1);
        x.effortHome(0);
        x.meanTiredness();
        x.append('1');
        x.parse();
        x.clearText();
        x.digest();
        check.due("undo() of give()", x.undo(), 1);
        check.due("value(2)", x.value(2), 0);
        check.due("undo() of addTeam()", x.undo(), 0);
        check.due("value(1)", x.value(1), 0);
    }

    private static void theTextIsNotSaved(Check check) {
        PostRoad x = new PostRoad();
        Check.type(x, "1;");
        x.addTeam(0, 0);
        Check.type(x, "1;2;3;");
        check.due("undo()", x.undo(), 0);
        check.due("parse()", x.parse(), 4);
        check.due("clearText()", x.clearText(), 6);
        check.due("undo()", x.undo(), 0);
        check.due("clearText()", x.clearText(), 0);
    }

    /** All of a busy state comes back, and what happens behind an undo() does not reach the older states. */
    private static void savedStatesAreKeptApart(Check check) {
        PostRoad x = Check.road("2+3;1;3-2;");
        for (int i = 0; i < 5; i++) {
            x.addTeam(i % 4, 30 * (i % 3));
            x.give(i % 4, (i + 1) % 4, i % 2 == 0);
        }
        long[] answers = new long[4];
        for (int i = 0; i < 4; i++) {
            answers[i] = Digests.withoutSavedStates(x, 0);
            x.pass(1 + i);
        }
        for (int i = 3; i >= 0; i--) {
            check.due("undo()", x.undo(), i);
            check.due("all answers after undo()", Digests.withoutSavedStates(x, 0), answers[i]);
            x.pass(7);
            check.due("undo() of what happened behind an undo()", x.undo(), i);
            check.due("all answers after that", Digests.withoutSavedStates(x, 0), answers[i]);
        }
    }

    /** A team that is on a hill again after undo() tires by the effort of the direction in which it is. */
    private static void theDirectionComesBack(Check check) {
        PostRoad x = Check.road("2+3;");
        x.addTeam(1, 0);
        x.give(1, 0, false);
        x.pass(1);
        x.give(0, 1, true);
        x.pass(2);
        check.due("team(0, 7) toward inn 0", x.team(0, 7), 5);
        check.due("team(0, 2) away from inn 0", x.team(0, 2), 1);
        x.undo();
        check.due("team(0, 2) toward inn 0", x.team(0, 2), 0);
        check.due("hoursTo(1)", x.hoursTo(1), 4);
        x.pass(2);
        check.due("team(0, 7) toward inn 0", x.team(0, 7), 5);
        x.pass(2);
        check.due("team(0, 7) both ways", x.team(0, 7), 27);
    }
}
