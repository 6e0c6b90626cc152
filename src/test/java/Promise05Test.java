/** Promise 5: give. */
public final class Promise05Test {
    public static void main(String[] args) {
        Check check = new Check("Promise05Test");
        PostRoad x = Check.road("1;1;");
        check.due("give(0, 2, true)", x.give(0, 2, true), 0);
        x.pass(7);
        check.due("give(2, 1, false)", x.give(2, 1, false), 1);
        int[][] want = {{0, 2, 1, 0, 0, -1, -1, 0}, {2, 1, 0, 7, 2, -1, -1, 0}};
        for (int letter = 0; letter < 2; letter++) {
            for (int what = 0; what <= 7; what++) {
                check.due("letter(" + letter + ", " + what + ")", x.letter(letter, what), want[letter][what]);
            }
        }
        check.badIndex(x, "give(-1, 0, true)", () -> x.give(-1, 0, true));
        check.badIndex(x, "give(3, 0, true)", () -> x.give(3, 0, true));
        check.badIndex(x, "give(0, -1, true)", () -> x.give(0, -1, true));
        check.badIndex(x, "give(0, 3, true)", () -> x.give(0, 3, true));
        check.badIndex(x, "give(3, 3, true)", () -> x.give(3, 3, true));
        check.badArgument(x, "give(1, 1, true)", () -> x.give(1, 1, true));
        check.undoable(x, "give(0, 1, false)", () -> x.give(0, 1, false));
        for (int i = 2; i < 12; i++) {
            check.due("give(1, 0, false)", x.give(1, 0, false), i);
        }
        check.badState(x, "give(0, 1, true) with twelve letters", () -> x.give(0, 1, true));
        check.badArgument(x, "give(1, 1, true) with twelve letters", () -> x.give(1, 1, true));
        check.badIndex(x, "give(0, 3, true) with twelve letters", () -> x.give(0, 3, true));
        check.end();
    }
}
