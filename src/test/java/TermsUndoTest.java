import java.util.function.Consumer;

/** The term "Undo". */
public final class TermsUndoTest {
    public static void main(String[] args) {
        Check check = new Check("Undo");
        check.sentence("Each successful call of a method whose description says undoable saves the state from before the call",
            TermsUndoTest::eachUndoable);
        check.sentence("even if the call changes nothing", TermsUndoTest::changesNothing);
        check.sentence("at most 4 states are saved", TermsUndoTest::atMostFour);
        check.sentence("and the oldest is dropped first.", TermsUndoTest::oldestFirst);
        check.sentence("The saved state contains everything", TermsUndoTest::everything);
        check.sentence("except the text.", TermsUndoTest::exceptTheText);
        check.end();
    }

    /** Teams that stand, run and walk back, letters of all three kinds, a blocked stage, a shut inn, a text. */
    static Run busy() {
        Run x = Run.road("2+3;1;3-2;");
        x.setInn(2, 4, 7, false);
        x.addTeam(0, 0);
        x.addTeam(1, 0);
        x.addTeam(2, 30);
        x.give(0, 3, true);
        x.give(1, 2, false);
        x.give(2, 0, false);
        x.give(3, 0, true);
        x.pass(4);
        x.setStage(2, 5, 1, true);
        x.setInn(3, 1, 0, true);
        x.pass(2);
        return x;
    }

    private static void eachUndoable(Check check) {
        String[] names = {"setStage", "setInn", "addTeam", "give", "collect", "pass", "parse"};
        for (int i = 0; i < names.length; i++) {
            Consumer<Run> call = undoable(i);
            check.undoable(new Run(), names[i] + " of a new object", i == 6 ? typed(call) : call);
            check.undoable(busy(), names[i] + " of a busy one", call);
        }
        theOthersSaveNothing(check);
        refusedOnesSaveNothing(check);
    }

    private static Consumer<Run> undoable(int i) {
        switch (i) {
            case 0: return x -> x.setStage(0, 9, -5, true);
            case 1: return x -> x.setInn(1, 6, 999, true);
            case 2: return x -> x.addTeam(1, 77);
            case 3: return x -> x.give(1, 0, true);
            case 4: return Run::collect;
            case 5: return x -> x.pass(200);
            default: return Run::parse;
        }
    }

    /** The bytes are no part of the state, but of the digest: they are taken away again. */
    private static Consumer<Run> typed(Consumer<Run> parse) {
        return x -> {
            x.append("4+4;");
            parse.accept(x);
            x.clearText();
        };
    }

    private static void theOthersSaveNothing(Check check) {
        Run x = new Run();
        x.addTeam(0, 0);
        x.give(0, 1, false);
        x.stage(0, 0);
        x.inn(0, 0);
        x.team(0, 0);
        x.letter(0, 0);
        x.value(0);
        x.why(0);
        x.hoursTo(0);
        x.hoursToAll();
        x.bestInn();
        x.way(0, 1);
        x.effortHome(0);
        x.meanTiredness();
        x.append('1');
        x.parse();
        x.clearText();
        x.digest();
        check.due("undo() of give()", x.undo(), 1);
        check.due("value(2)", x.value(2), 0);
        check.due("undo() of addTeam()", x.undo(), 0);
        check.due("value(1)", x.value(1), 0);
    }

    private static void refusedOnesSaveNothing(Check check) {
        Run x = Run.typed("1;x");
        check.badIndex(x, "setStage", r -> r.setStage(1, 1, 0, false));
        check.badIndex(x, "setInn", r -> r.setInn(2, 1, 0, false));
        check.badArgument(x, "addTeam", r -> r.addTeam(0, 101));
        check.badArgument(x, "give", r -> r.give(0, 0, false));
        check.badArgument(x, "pass", r -> r.pass(0));
        check.due("parse()", x.parse(), -12);
        check.badState(x, "undo", Run::undo);
    }

    private static void changesNothing(Check check) {
        Run x = Run.road("2;3;");
        x.undo();
        check.due("saved states", x.digest() - x.state(), 0);
        x.setStage(0, 2, 0, false);
        x.setInn(0, 2, 100, false);
        x.collect();
        check.due("undo() of collect()", x.undo(), 2);
        check.due("undo() of setInn()", x.undo(), 1);
        check.due("undo() of setStage()", x.undo(), 0);
        x.parse();
        x.parse();
        check.due("undo() of the second parse()", x.undo(), 1);
        check.due("value(0)", x.value(0), 3);
        check.due("undo() of parse()", x.undo(), 0);
        check.due("value(0)", x.value(0), 2);
    }

    /** From no saved state to six undoable calls. */
    private static void atMostFour(Check check) {
        for (int made = 0; made <= 6; made++) {
            Run x = new Run();
            for (int i = 1; i <= made; i++) {
                x.setInn(0, 2, i, false);
            }
            for (int left = Math.min(4, made) - 1; left >= 0; left--) {
                check.due("undo() after " + made, x.undo(), left);
            }
            check.badState(x, "undo() after " + made + " and all of its undos", Run::undo);
            check.due("inn(0, 1) after all undos of " + made, x.inn(0, 1), made == 0 || made <= 4 ? 100 : made - 4);
        }
    }

    private static void oldestFirst(Check check) {
        Run x = new Run();
        for (int i = 1; i <= 6; i++) {
            x.setInn(0, 2, i, false);
        }
        for (int left = 3; left >= 0; left--) {
            check.due("undo()", x.undo(), left);
            check.due("inn(0, 1)", x.inn(0, 1), left + 2);
        }
        x.setInn(0, 2, 77, false);
        x.setInn(0, 2, 78, false);
        check.due("undo()", x.undo(), 1);
        check.due("inn(0, 1)", x.inn(0, 1), 77);
        for (int i = 80; i < 84; i++) {
            x.setInn(0, 2, i, false);
        }
        int[] want = {82, 81, 80, 77};
        for (int i = 0; i < 4; i++) {
            check.due("undo()", x.undo(), 3 - i);
            check.due("inn(0, 1)", x.inn(0, 1), want[i]);
        }
        check.badState(x, "undo() when the oldest are dropped", Run::undo);
    }

    /** All of a busy state comes back, four times, and what happens behind an undo() does not reach the older ones. */
    private static void everything(Check check) {
        Run x = busy();
        Run[] before = new Run[4];
        for (int i = 0; i < 4; i++) {
            before[i] = x.again();
            x.pass(1 + i);
        }
        for (int i = 3; i >= 0; i--) {
            check.due("undo()", x.undo(), i);
            sameFromNowOn(check, x.again(), before[i].again());
            x.pass(7);
            check.due("undo() of what happened behind an undo()", x.undo(), i);
            sameFromNowOn(check, x.again(), before[i].again());
        }
        theDirectionComesBack(check);
        theCountsComeBack(check);
    }

    private static void sameFromNowOn(Check check, Run x, Run y) {
        for (int hour = 0; hour < 10; hour++) {
            check.due("state " + hour + " hours behind undo()", x.state(), y.state());
            x.pass(1);
            y.pass(1);
        }
    }

    /** A team that is on a hill again tires by the effort of the direction in which it is. */
    private static void theDirectionComesBack(Check check) {
        Run x = Run.road("2+3;");
        x.addTeam(1, 0);
        x.give(1, 0, false);
        x.pass(1);
        x.give(0, 1, true);
        x.pass(2);
        check.team(x, 0, 1, 5, 1, 2, 1, 0, 1, 5);
        x.undo();
        check.team(x, 0, 1, 0, 0, 2, 0, 0, 0, 0);
        check.due("hoursTo(1)", x.hoursTo(1), 4);
        x.pass(2);
        check.team(x, 0, 1, 5, 1, 2, 1, 0, 1, 5);
        x.pass(2);
        check.team(x, 0, 1, 27, 1, 0, -1, 0, 2, 27);
    }

    private static void theCountsComeBack(Check check) {
        Run x = Run.road("1;");
        x.addTeam(0, 20);
        x.give(0, 1, true);
        x.pass(1);
        x.pass(3);
        check.values(x, 2, 1, 1, 4, 1, 2, 1, 2, 3, 0, 0);
        x.collect();
        check.values(x, 2, 1, 0, 4, 1, 2, 1, 2, 3, 0, 0);
        x.undo();
        check.values(x, 2, 1, 1, 4, 1, 2, 1, 2, 3, 0, 0);
        x.undo();
        check.values(x, 2, 1, 1, 1, 0, 0, 0, 0, 1, 0, 1);
        x.undo();
        check.values(x, 2, 1, 1, 0, 0, 0, 0, 0, 0, 1, 0);
    }

    private static void exceptTheText(Check check) {
        Run x = Run.typed("1;");
        x.addTeam(0, 0);
        x.append("2;3;");
        check.due("undo()", x.undo(), 0);
        check.due("parse()", x.parse(), 4);
        check.due("clearText()", x.clearText(), 6);
        check.due("undo()", x.undo(), 0);
        check.due("clearText()", x.clearText(), 0);
        x.append("7");
        check.badState(x, "undo(): append is not undoable", Run::undo);
        check.due("append", x.append(';'), 2);
        check.due("parse()", x.parse(), 2);
        check.stage(x, 0, 7, 0, 0);
    }
}
