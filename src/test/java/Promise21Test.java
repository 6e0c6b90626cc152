/** Promise 21: clearText. */
public final class Promise21Test {
    public static void main(String[] args) {
        Check check = new Check("Promise 21");
        check.sentence("Empties the text.", Promise21Test::empties);
        check.sentence("Returns the length that it had.", Promise21Test::lengthThatItHad);
        check.end();
    }

    /** And nothing else: the road stays, and there is nothing to undo. */
    private static void empties(Check check) {
        Run x = Run.road("1;2;");
        x.addTeam(0, 30);
        x.clearText();
        check.due("parse()", x.parse(), -10);
        check.due("value(0)", x.value(0), 3);
        check.due("team(0, 1)", x.team(0, 1), 30);
        x.append("7;");
        check.due("parse() of a new text", x.parse(), 2);
        check.stage(x, 0, 7, 0, 0);
        x.clearText();
        check.due("undo() of parse()", x.undo(), 2);
        check.due("undo() of addTeam()", x.undo(), 1);
        check.due("value(1)", x.value(1), 0);
        Run saved = new Run();
        saved.clearText();
        check.badState(saved, "undo(): clearText is not undoable", Run::undo);
    }

    private static void lengthThatItHad(Check check) {
        for (int length : new int[] {0, 1, 2, 89, 90}) {
            Run x = Run.typed("1".repeat(length));
            check.due("clearText() of " + length, x.clearText(), length);
            check.due("clearText() again", x.clearText(), 0);
        }
    }
}
