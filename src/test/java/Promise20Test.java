/** Promise 20: append. */
public final class Promise20Test {
    public static void main(String[] args) {
        Check check = new Check("Promise20Test");
        PostRoad x = new PostRoad();
        check.due("append(0)", x.append(0), 1);
        check.due("append(127)", x.append(127), 2);
        check.badArgument(x, "append(-1)", () -> x.append(-1));
        check.badArgument(x, "append(128)", () -> x.append(128));
        check.badArgument(x, "append(256 + 49)", () -> x.append(256 + 49));
        for (int i = 3; i <= 90; i++) {
            check.due("append(50)", x.append(50), i);
        }
        check.badState(x, "append(50) at 90 bytes", () -> x.append(50));
        check.badArgument(x, "append(128) at 90 bytes", () -> x.append(128));
        check.badState(x, "undo(): append is not undoable", x::undo);
        check.due("parse()", x.parse(), -10);
        x.clearText();
        check.due("append(49)", x.append(49), 1);
        check.due("append(59)", x.append(59), 2);
        check.due("parse()", x.parse(), 2);
        check.end();
    }
}
