/** Promise 20: append. */
public final class Promise20Test {
    public static void main(String[] args) {
        Check check = new Check("Promise 20");
        check.sentence("Appends a byte to the text.", Promise20Test::appends);
        check.sentence("- value: the byte, 0 to 127", Promise20Test::eachByte);
        check.sentence("Returns the new length of the text.", Promise20Test::newLength);
        check.sentence("Throws IllegalArgumentException if value is out of range", Promise20Test::outOfRange);
        check.sentence("Throws IllegalStateException if the text has 90 bytes", Promise20Test::ninetyBytes);
        check.end();
    }

    /** Behind the others: the road is that of the bytes in their order. */
    private static void appends(Check check) {
        Run x = new Run();
        x.append('3');
        check.due("parse() of 3", x.parse(), -11);
        x.append(';');
        check.due("parse() of 3;", x.parse(), 2);
        x.append('4');
        check.due("parse() of 3;4", x.parse(), -13);
        x.append(';');
        check.due("parse() of 3;4;", x.parse(), 3);
        check.stage(x, 0, 3, 0, 0);
        check.stage(x, 1, 4, 0, 0);
        Run saved = new Run();
        saved.append('1');
        check.badState(saved, "undo(): append is not undoable", Run::undo);
    }

    private static void eachByte(Check check) {
        for (int value = 0; value <= 127; value++) {
            Run x = new Run();
            check.due("append(" + value + ")", x.append(value), 1);
            check.due("parse() of the byte " + value, x.parse(), value >= '1' && value <= '9' ? -11 : -10);
            check.due("clearText()", x.clearText(), 1);
        }
    }

    private static void newLength(Check check) {
        Run x = new Run();
        for (int i = 1; i <= 90; i++) {
            check.due("append", x.append(i), i);
        }
        x.clearText();
        check.due("append after clearText()", x.append(0), 1);
    }

    private static void outOfRange(Check check) {
        check.range(Run::new, "append", 0, 127, (x, v) -> x.append(v));
        check.badArgument(new Run(), "append(256 + 49)", x -> x.append(256 + 49));
        for (int value : new int[] {-1, 128, Integer.MIN_VALUE, Integer.MAX_VALUE}) {
            check.badArgument(Run.typed("1".repeat(90)), "append(" + value + ") at 90 bytes", x -> x.append(value));
        }
    }

    private static void ninetyBytes(Check check) {
        check.due("append at 89 bytes", Run.typed("1".repeat(89)).append(0), 90);
        check.badState(Run.typed("1".repeat(90)), "append(0) at 90 bytes", x -> x.append(0));
        check.badState(Run.typed("1".repeat(90)), "append(127) at 90 bytes", x -> x.append(127));
    }
}
