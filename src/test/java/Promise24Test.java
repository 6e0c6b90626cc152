/** Promise 24: digest. */
public final class Promise24Test {
    public static void main(String[] args) {
        Check check = new Check("Promise 24");
        check.sentence("Returns a hash of the state.", Promise24Test::onlyAsks);
        check.sentence("Start with h = 3491 and, for each of the following values v, set h = 31 * h + v", Promise24Test::byHand);
        check.sentence("the length of the text", Promise24Test::lengthOfTheText);
        check.sentence("value() for 0 to 10", c -> differs(c, new Run(), x -> x.pass(1)));
        check.sentence("for each stage the values of stage() for what = 0 to 5", Promise24Test::stages);
        check.sentence("for each inn the values of inn() for what = 0 to 6", Promise24Test::inns);
        check.sentence("for each team the values of team() for what = 0 to 9", Promise24Test::teams);
        check.sentence("for each letter the values of letter() for what = 0 to 7 and why()", Promise24Test::letters);
        check.sentence("hoursToAll()", Promise24Test::hoursToAll);
        check.sentence("the number of saved states.", Promise24Test::savedStates);
        check.sentence("Returns the hash, with the overflow of long arithmetic ignored.", Promise24Test::overflow);
        check.end();
    }

    /** The document's hash, made of the other answers of such an object. */
    private static long due(Run like, int textLength) {
        Run x = like.again();
        long h = 31L * 3491L + textLength;
        int inns = x.value(0);
        int teams = x.value(1);
        int letters = x.value(2);
        for (int what = 0; what <= 10; what++) {
            h = 31L * h + x.value(what);
        }
        for (int i = 0; i + 1 < inns; i++) {
            for (int what = 0; what <= 5; what++) {
                h = 31L * h + x.stage(i, what);
            }
        }
        for (int i = 0; i < inns; i++) {
            for (int what = 0; what <= 6; what++) {
                h = 31L * h + x.inn(i, what);
            }
        }
        for (int i = 0; i < teams; i++) {
            for (int what = 0; what <= 9; what++) {
                h = 31L * h + x.team(i, what);
            }
        }
        for (int i = 0; i < letters; i++) {
            for (int what = 0; what <= 7; what++) {
                h = 31L * h + x.letter(i, what);
            }
            h = 31L * h + x.why(i);
        }
        h = 31L * h + x.hoursToAll();
        return 31L * h + x.saved();
    }

    /** The digest is due before the call and after it, and the call has changed it. */
    private static void differs(Check check, Run x, java.util.function.Consumer<Run> call) {
        long before = x.digest();
        check.due("digest()", before, due(x, x.again().clearText()));
        call.accept(x);
        check.due("digest() after the call", x.digest(), due(x, x.again().clearText()));
        check.holds("digest() has changed", x.digest() != before);
    }

    private static void onlyAsks(Check check) {
        check.changesNothing(new Run(), "digest()", Run::digest);
        check.changesNothing(TermsUndoTest.busy(), "digest()", Run::digest);
        Run x = TermsUndoTest.busy();
        check.due("digest() again", x.digest(), x.digest());
        check.due("digest() of another one by the same calls", x.again().digest(), x.digest());
    }

    /** The values of a new object with a letter, and of a new object, written down. */
    private static void byHand(Check check) {
        Run x = new Run();
        check.due("digest() of a new object", x.digest(), hash(
            0,
            2, 0, 0, 0, 0, 0, 0, 0, 0, 0, 0,
            2, 0, 0, 10, 10, 0,
            2, 100, 0, 0, 0, 0, 2,
            2, 100, 0, 0, 0, 0, 2,
            0,
            0));
        x.addTeam(1, 7);
        x.give(0, 1, true);
        x.append('4');
        check.due("digest() of a team and a letter", x.digest(), hash(
            1,
            2, 1, 1, 0, 0, 0, 0, 0, 0, 1, 0,
            2, 0, 0, 10, 10, 0,
            2, 100, 0, 0, 0, 1, 2,
            2, 100, 0, 1, 0, 0, 1,
            1, 7, 1, 0, -1, 0, 0, 0, 0, 0,
            0, 1, 1, 0, 0, -1, -1, 0, 6,
            -1,
            2));
    }

    private static long hash(int... values) {
        long h = 3491;
        for (int v : values) {
            h = 31 * h + v;
        }
        return h;
    }

    private static void lengthOfTheText(Check check) {
        for (int length : new int[] {0, 1, 89, 90}) {
            Run x = Run.typed("1".repeat(length));
            check.due("digest() with " + length + " bytes", x.digest(), due(x, length));
            x.clearText();
            check.due("digest() after clearText()", x.digest(), new Run().digest());
        }
        check.due("digest() with another byte", Run.typed("1").digest(), Run.typed("2").digest());
    }

    private static void stages(Check check) {
        for (int stages = 1; stages <= 7; stages++) {
            int last = stages - 1;
            differs(check, Run.road("3-1;".repeat(stages)), x -> x.setStage(last, 9, 5, true));
        }
    }

    private static void inns(Check check) {
        for (int inns = 2; inns <= 8; inns++) {
            int last = inns - 1;
            differs(check, Run.road("3-1;".repeat(inns - 1)), x -> x.setInn(last, 6, 999, true));
        }
    }

    private static void teams(Check check) {
        for (int teams = 0; teams < 10; teams++) {
            differs(check, Promise04Test.withTeams(teams), x -> x.addTeam(2, 100));
        }
    }

    private static void letters(Check check) {
        Run x = Run.road("2;1;");
        x.addTeam(0, 0);
        x.addTeam(1, 40);
        for (int i = 0; i < 12; i++) {
            int number = i;
            differs(check, x, r -> r.give(number % 3, (number + 1) % 3, number % 4 == 0));
        }
        for (int hours = 0; hours < 8; hours++) {
            differs(check, x, r -> r.pass(1));
        }
        differs(check, x, Run::collect);
    }

    /** None, 0, 1 and 500. */
    private static void hoursToAll(Check check) {
        Run x = Promise14Test.slowRoad();
        x.pass(17);
        check.due("hoursToAll()", x.again().hoursToAll(), -1);
        differs(check, x, r -> r.pass(1));
        check.due("hoursToAll()", x.again().hoursToAll(), 500);
        x.passTo(517);
        check.due("hoursToAll()", x.again().hoursToAll(), 1);
        differs(check, x, r -> r.pass(1));
        check.due("hoursToAll()", x.again().hoursToAll(), 0);
    }

    /** The answers are the same, but for the saved states: none to four, and no more. */
    private static void savedStates(Check check) {
        Run x = new Run();
        long none = x.digest();
        for (int made = 0; made <= 6; made++) {
            check.due("digest() with " + made + " calls", x.digest() - none, Math.min(4, made));
            x.setInn(0, 2, 100, false);
        }
        for (int left = 3; left >= 0; left--) {
            x.undo();
            check.due("digest() with " + left + " left", x.digest() - none, left);
        }
    }

    /** Each of the 13 values and more takes it past the greatest long, to both sides. */
    private static void overflow(Check check) {
        boolean below = false;
        boolean above = false;
        for (int stages = 1; stages <= 7; stages++) {
            Run x = Run.road("1;".repeat(stages));
            for (int i = 0; i < 10; i++) {
                x.addTeam(i % (stages + 1), 10 * i);
                x.give(i % (stages + 1), (i + 1) % (stages + 1), i % 3 == 0);
            }
            x.pass(3);
            long digest = x.digest();
            check.due("digest() of a full road of " + stages, digest, due(x, 2 * stages));
            below |= digest < 0;
            above |= digest > 0;
        }
        check.holds("some are below 0 and some above", below && above);
    }
}
