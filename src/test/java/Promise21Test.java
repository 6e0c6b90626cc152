/** Promise 21: clearText. */
public final class Promise21Test {
    public static void main(String[] args) {
        Check check = new Check("Promise21Test");
        PostRoad x = new PostRoad();
        check.due("clearText() without a text", x.clearText(), 0);
        Check.type(x, "1;2;");
        x.addTeam(0, 30);
        check.due("clearText()", x.clearText(), 4);
        check.due("clearText()", x.clearText(), 0);
        check.due("parse() after it", x.parse(), -10);
        check.due("team(0, 1)", x.team(0, 1), 30);
        check.due("undo() of addTeam: clearText is not undoable", x.undo(), 0);
        check.due("value(1)", x.value(1), 0);
        for (int i = 0; i < 90; i++) {
            x.append('1');
        }
        check.due("clearText() of 90 bytes", x.clearText(), 90);
        Check.type(x, "7;");
        check.due("parse()", x.parse(), 2);
        check.due("stage(0, 0)", x.stage(0, 0), 7);
        check.end();
    }
}
