/** Promise 6: collect. */
public final class Promise06Test {
    public static void main(String[] args) {
        Check check = new Check("Promise06Test");
        PostRoad x = Check.road("1;9;");
        x.setInn(1, 6, 100, false);
        x.addTeam(0, 0);
        x.addTeam(0, 0);
        x.addTeam(1, 0);
        check.due("collect() without letters", x.collect(), 0);
        x.give(0, 1, false);
        x.give(1, 2, true);
        x.give(0, 1, false);
        x.give(2, 0, true);
        check.due("pass(2)", x.pass(2), 2);
        check.undoable(x, "collect()", x::collect);
        check.due("collect()", x.collect(), 2);
        check.due("value(2)", x.value(2), 2);
        check.due("value(4) after collect()", x.value(4), 2);
        check.due("value(5) after collect()", x.value(5), 4);
        int[][] want = {{1, 2, 1, 0, 2, 2, -1, 1}, {2, 0, 1, 0, 2, -1, -1, 0}};
        for (int letter = 0; letter < 2; letter++) {
            for (int what = 0; what <= 7; what++) {
                check.due("letter(" + letter + ", " + what + ")", x.letter(letter, what), want[letter][what]);
            }
        }
        check.due("team(2, 4) has the letter by its new number", x.team(2, 4), 0);
        check.badIndex(x, "letter(2, 0)", () -> x.letter(2, 0));
        check.due("collect() with none delivered", x.collect(), 0);
        check.due("value(2)", x.value(2), 2);
        check.undoable(x, "collect() that changes nothing", x::collect);
        check.due("give(0, 1, false) takes the next number", x.give(0, 1, false), 2);
        check.due("letter(2, 7) of the new one", x.letter(2, 7), 0);
        theLaterOnes(check);
        noneOfTwelve(check);
        check.end();
    }

    /** Each that moves keeps all of its own: when it was given, where it lies, who has it. */
    private static void theLaterOnes(Check check) {
        PostRoad x = Check.road("1;9;");
        x.addTeam(0, 0);
        x.addTeam(2, 0);
        x.give(0, 1, true);
        x.pass(3);
        x.give(2, 0, false);
        x.pass(4);
        x.give(1, 2, true);
        x.give(2, 1, true);
        x.undo();
        int[][] want = new int[2][8];
        for (int i = 0; i < 2; i++) {
            for (int what = 0; what <= 7; what++) {
                want[i][what] = x.letter(i + 1, what);
            }
        }
        check.due("given at", want[0][3], 3);
        check.due("given at", want[1][3], 7);
        check.due("collect()", x.collect(), 1);
        for (int i = 0; i < 2; i++) {
            for (int what = 0; what <= 7; what++) {
                check.due("letter(" + i + ", " + what + ") after collect()", x.letter(i, what), want[i][what]);
            }
        }
        check.due("team(1, 4)", x.team(1, 4), 0);
        check.due("collect() again", x.collect(), 0);
        check.due("value(2)", x.value(2), 2);
    }

    private static void noneOfTwelve(Check check) {
        PostRoad x = new PostRoad();
        for (int i = 0; i < 12; i++) {
            x.give(i % 2, 1 - i % 2, false);
        }
        check.due("collect() of twelve", x.collect(), 0);
        check.due("value(2)", x.value(2), 12);
        x.addTeam(0, 0);
        x.pass(3);
        check.due("collect() of twelve", x.collect(), 1);
        check.due("value(2)", x.value(2), 11);
    }
}
