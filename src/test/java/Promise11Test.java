/** Promise 11: letter. */
public final class Promise11Test {
    public static void main(String[] args) {
        Check check = new Check("Promise11Test");
        PostRoad x = Check.road("2;1;");
        x.addTeam(1, 0);
        x.addTeam(2, 0);
        x.pass(5);
        x.give(2, 0, true);
        x.give(0, 2, false);
        letter(check, x, 0, 2, 0, 1, 5, 2, -1, -1, 0);
        letter(check, x, 1, 0, 2, 0, 5, 0, -1, -1, 0);
        x.pass(1);
        letter(check, x, 0, 2, 0, 1, 5, 1, 1, -1, 1);
        x.pass(1);
        letter(check, x, 0, 2, 0, 1, 5, 0, 0, -1, 2);
        x.pass(1);
        letter(check, x, 0, 2, 0, 1, 5, 0, 0, -1, 2);
        check.due("pass(1)", x.pass(1), 1);
        letter(check, x, 0, 2, 0, 1, 5, 0, -1, 9, 2);
        letter(check, x, 1, 0, 2, 0, 5, 1, 0, -1, 1);
        check.due("pass(3)", x.pass(3), 1);
        letter(check, x, 1, 0, 2, 0, 5, 2, -1, 12, 2);
        letter(check, x, 0, 2, 0, 1, 5, 0, -1, 9, 2);

        check.badIndex(x, "letter(-1, 0)", () -> x.letter(-1, 0));
        check.badIndex(x, "letter(2, 0)", () -> x.letter(2, 0));
        check.badIndex(x, "letter(2, 8)", () -> x.letter(2, 8));
        check.badArgument(x, "letter(0, -1)", () -> x.letter(0, -1));
        check.badArgument(x, "letter(0, 8)", () -> x.letter(0, 8));
        check.end();
    }

    private static void letter(Check check, PostRoad x, int letter, int... want) {
        for (int what = 0; what < want.length; what++) {
            check.due("hour " + x.value(3) + ": letter(" + letter + ", " + what + ")", x.letter(letter, what), want[what]);
        }
    }
}
