/** Promise 22: parse. */
public final class Promise22Test {
    public static void main(String[] args) {
        Check check = new Check("Promise22Test");
        roads(check);
        errors(check);
        errorsInLateStages(check);
        everyByteAtEveryPlace(check);
        allAsAtFirst(check);
        undone(check);
        behindAQuestion(check);
        rowsUsedAgainAreFresh(check);
        check.end();
    }

    private static void parses(Check check, String text, int want) {
        PostRoad x = lively();
        Check.type(x, text);
        long before = x.digest();
        check.due("parse() of '" + text + "'", x.parse(), want);
        if (want < 0) {
            check.due("digest() after parse() of '" + text + "'", x.digest(), before);
        }
    }

    private static PostRoad lively() {
        PostRoad x = Check.road("3+2;2;1;");
        x.addTeam(0, 10);
        x.give(0, 2, true);
        x.pass(4);
        return x;
    }

    private static void roads(Check check) {
        parses(check, "1;", 2);
        parses(check, "9-5;", 2);
        parses(check, "1;1;", 3);
        parses(check, "1+1;2-2;3+3;4-4;5+5;", 6);
        parses(check, "1;1;1;1;1;1;1;", 8);
        parses(check, "9+5;9+5;9+5;9+5;9+5;9+5;9+5;", 8);
        PostRoad x = Check.road("1+1;2-2;3;4-4;5+5;6-1;9;");
        int[] hills = {1, -2, 0, -4, 5, -1, 0};
        int[] hours = {1, 2, 3, 4, 5, 6, 9};
        for (int i = 0; i < 7; i++) {
            check.due("stage(" + i + ", 0)", x.stage(i, 0), hours[i]);
            check.due("stage(" + i + ", 1)", x.stage(i, 1), hills[i]);
            check.due("stage(" + i + ", 2)", x.stage(i, 2), 0);
        }
    }

    private static void errors(Check check) {
        parses(check, "", -10);
        parses(check, ";", -10);
        parses(check, "0;", -10);
        parses(check, "+1;", -10);
        parses(check, " 1;", -10);
        parses(check, "1", -11);
        parses(check, "11;", -11);
        parses(check, "1 ;", -11);
        parses(check, "1*1;", -11);
        parses(check, "1+", -12);
        parses(check, "1+;", -12);
        parses(check, "1+0;", -12);
        parses(check, "1-6;", -12);
        parses(check, "1--1;", -12);
        parses(check, "1-5", -13);
        parses(check, "1-55;", -13);
        parses(check, "1-5+5;", -13);
    }

    private static void errorsInLateStages(Check check) {
        parses(check, "1;2", -13);
        parses(check, "1;;", -12);
        parses(check, "1;2+3;4-", -18);
        parses(check, "1;1;1;1;1;1;1;1", -24);
        parses(check, "1;1;1;1;1;1;1;1;", -24);
        parses(check, "1;1;1;1;1;1;1;x", -24);
        parses(check, "9+5;9+5;9+5;9+5;9+5;9+5;9+5;9+5;", -38);
        parses(check, "1;1;1;1;1;1;1", -23);
    }

    /** The bytes that can stand are the same for each stage, whatever the digits are. */
    private static void everyByteAtEveryPlace(Check check) {
        String[] starts = {"", "4", "4-", "4-4", "4-4;", "4;"};
        String[] fits = {"123456789", "+-;", "12345", ";", "123456789", "123456789"};
        PostRoad x = new PostRoad();
        for (int i = 0; i < starts.length; i++) {
            for (char next = 0; next < 128; next++) {
                if (next == ';' && fits[i].indexOf(next) >= 0) {
                    continue;
                }
                int stands = fits[i].indexOf(next) >= 0 ? 1 : 0;
                Check.type(x, starts[i] + next);
                check.due("parse() of '" + starts[i] + "' and byte " + (int) next, x.parse(), -10 - starts[i].length() - stands);
            }
        }
    }

    private static void allAsAtFirst(Check check) {
        PostRoad x = Check.road("1;1;1;");
        x.setInn(0, 6, 5, true);
        x.setInn(3, 0, 0, true);
        x.setStage(2, 4, 4, true);
        x.addTeam(0, 50);
        x.give(0, 1, true);
        x.setInn(0, 6, 5, false);
        x.pass(9);
        check.due("value(4)", x.value(4), 1);
        x.parse();
        check.due("value(0)", x.value(0), 4);
        for (int what = 1; what <= 10; what++) {
            check.due("value(" + what + ")", x.value(what), 0);
        }
        int[] inn = {2, 100, 0, 0, 0, 0, 2};
        for (int i = 0; i < 4; i++) {
            for (int what = 0; what <= 6; what++) {
                check.due("inn(" + i + ", " + what + ")", x.inn(i, what), inn[what]);
            }
        }
        check.due("stage(2, 0)", x.stage(2, 0), 1);
        check.due("stage(2, 2)", x.stage(2, 2), 0);
        check.due("clearText(): the text stayed", x.clearText(), 6);
        shorterRoad(check, x);
    }

    private static void shorterRoad(Check check, PostRoad x) {
        x.addTeam(3, 0);
        Check.type(x, "5;");
        check.due("parse()", x.parse(), 2);
        check.badIndex(x, "inn(2, 0)", () -> x.inn(2, 0));
        check.badIndex(x, "stage(1, 0)", () -> x.stage(1, 0));
        check.badIndex(x, "team(0, 0)", () -> x.team(0, 0));
        check.badIndex(x, "letter(0, 0)", () -> x.letter(0, 0));
    }

    /** What was looked into by a what-if question is no part of the road that is read next. */
    private static void behindAQuestion(Check check) {
        PostRoad x = Check.road("1;2;3+3;4;");
        long fresh = Digests.withoutSavedStates(x, 0);
        x.setStage(2, 3, 1, true);
        x.setInn(1, 5, 40, true);
        x.setInn(1, 5, 40, false);
        x.addTeam(0, 50);
        x.addTeam(1, 50);
        x.give(0, 1, true);
        x.give(1, 2, true);
        x.pass(5);
        x.hoursToAll();
        x.bestInn();
        check.due("parse()", x.parse(), 5);
        check.due("all answers", Digests.withoutSavedStates(x, 0), fresh);
        check.due("value(8)", x.value(8), 0);
        Check.type(x, "1;2;3+3;4;x");
        x.parse();
        check.due("all answers after a syntax error", Digests.withoutSavedStates(x, 0), fresh);
        x.addTeam(0, 0);
        check.due("addTeam(0, 0), then value(1)", x.value(1), 1);
    }

    /** Teams that stood, ran and walked, and letters on stages, leave nothing to those that come after parse(). */
    private static void rowsUsedAgainAreFresh(Check check) {
        for (int hours = 1; hours < 14; hours++) {
            PostRoad x = busy();
            x.pass(hours);
            x.parse();
            for (int i = 0; i < 3; i++) {
                x.addTeam(1, 33);
                x.give(2, 1, false);
                for (int what = 0; what <= 9; what++) {
                    int want = what == 0 || what == 2 ? 1 : what == 1 ? 33 : what == 4 ? -1 : 0;
                    check.due("team(" + i + ", " + what + ") after " + hours, x.team(i, what), want);
                }
                int[] letter = {2, 1, 0, 0, 2, -1, -1, 0};
                for (int what = 0; what <= 7; what++) {
                    check.due("letter(" + i + ", " + what + ") after " + hours, x.letter(i, what), letter[what]);
                }
            }
        }
    }

    private static PostRoad busy() {
        PostRoad x = Check.road("3;1;");
        x.setInn(1, 6, 100, false);
        x.addTeam(0, 10);
        x.addTeam(1, 0);
        x.addTeam(2, 20);
        x.give(0, 2, true);
        x.give(1, 2, true);
        x.give(1, 0, false);
        return x;
    }

    private static void undone(Check check) {
        PostRoad x = lively();
        Check.type(x, "4;4;4;4;");
        check.undoable(x, "parse()", x::parse);
        check.due("clearText(): undo() left the text", x.clearText(), 8);
        PostRoad y = new PostRoad();
        Check.type(y, "4;x");
        y.parse();
        check.badState(y, "undo() after a syntax error", y::undo);
    }
}
