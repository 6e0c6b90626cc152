/** Promise 22: parse; TermsTextTest tells more of its texts. */
public final class Promise22Test {
    public static void main(String[] args) {
        Check check = new Check("Promise 22");
        check.sentence("Makes the road that of the text", Promise22Test::thatOfTheText);
        check.sentence("with inns as at first", Promise22Test::innsAsAtFirst);
        check.sentence("and without teams and letters", Promise22Test::withoutTeamsAndLetters);
        check.sentence("the hour and all counts are 0.", Promise22Test::hourAndCounts);
        check.sentence("The text stays as it is.", Promise22Test::textStays);
        check.sentence("Undoable, if there is no syntax error.", Promise22Test::undoable);
        check.sentence("Returns the number of inns", Promise22Test::numberOfInns);
        check.sentence("-10 minus the syntax error position if there is a syntax error", Promise22Test::errorPosition);
        check.sentence("(then nothing changes).", Promise22Test::nothingChanges);
        check.end();
    }

    /** A busy road of four inns with a text of its own. */
    private static Run busyAnd(String text) {
        Run x = TermsUndoTest.busy();
        x.clearText();
        x.append(text);
        return x;
    }

    private static void thatOfTheText(Check check) {
        Run x = busyAnd("1+1;2-2;3;4-4;5+5;6-1;9;");
        x.parse();
        int[] hours = {1, 2, 3, 4, 5, 6, 9};
        int[] hills = {1, -2, 0, -4, 5, -1, 0};
        for (int i = 0; i < 7; i++) {
            check.stage(x, i, hours[i], hills[i], 0);
            check.due("stage(" + i + ", 5)", x.stage(i, 5), 0);
        }
        Run shorter = busyAnd("5;");
        shorter.parse();
        check.stage(shorter, 0, 5, 0, 0, 25, 25, 0);
        check.badIndex(shorter, "stage(1, 0)", r -> r.stage(1, 0));
        check.badIndex(shorter, "inn(2, 0)", r -> r.inn(2, 0));
        asANewOne(check);
    }

    /** Whatever was before, also what a question looked into: from then on all is as in a fresh road of the text. */
    private static void asANewOne(Check check) {
        for (int hours = 1; hours < 12; hours++) {
            Run x = busyAnd("2+3;1;3-2;");
            x.pass(hours);
            x.hoursToAll();
            x.bestInn();
            x.parse();
            Run y = Run.road("2+3;1;3-2;");
            for (int i = 0; i < 3; i++) {
                x.addTeam(i, 10 * i);
                y.addTeam(i, 10 * i);
                x.give(i, i + 1, i == 1);
                y.give(i, i + 1, i == 1);
            }
            for (int hour = 0; hour < 10; hour++) {
                check.due("state " + hour + " hours after parse()", x.state(), y.state());
                x.pass(1);
                y.pass(1);
            }
        }
    }

    private static void innsAsAtFirst(Check check) {
        Run x = Run.road("1;1;1;");
        x.setInn(0, 6, 5, true);
        x.setInn(3, 0, 0, true);
        x.addTeam(1, 50);
        x.pass(3);
        x.parse();
        for (int i = 0; i < 4; i++) {
            check.inn(x, i, 2, 100, 0, 0, 0, 0, 2);
        }
        Run longer = Run.road("1;");
        longer.setInn(1, 0, 0, true);
        longer.append("1;1;1;1;1;1;");
        longer.parse();
        for (int i = 0; i < 8; i++) {
            check.inn(longer, i, 2, 100, 0, 0, 0, 0, 2);
        }
    }

    private static void withoutTeamsAndLetters(Check check) {
        Run x = busyAnd("1;1;1;");
        x.parse();
        check.badIndex(x, "team(0, 0)", r -> r.team(0, 0));
        check.badIndex(x, "letter(0, 0)", r -> r.letter(0, 0));
        check.due("value(1)", x.value(1), 0);
        check.due("value(2)", x.value(2), 0);
        check.due("addTeam", x.addTeam(1, 33), 0);
        check.due("give", x.give(2, 1, false), 0);
        check.team(x, 0, 1, 33, 1, 0, -1, 0, 0, 0, 0, 0);
        check.letter(x, 0, 2, 1, 0, 0, 2, -1, -1, 0);
    }

    private static void hourAndCounts(Check check) {
        Run x = Run.road("1;");
        x.addTeam(0, 20);
        x.give(0, 1, true);
        x.give(0, 1, false);
        x.pass(3);
        check.values(x, 2, 1, 2, 3, 1, 2, 1, 2, 2, 1, 0);
        x.parse();
        check.values(x, 2, 0, 0, 0, 0, 0, 0, 0, 0, 0, 0);
        x.give(0, 1, false);
        check.due("letter(0, 3)", x.letter(0, 3), 0);
    }

    private static void textStays(Check check) {
        for (String text : new String[] {"", "x", "4;", "4+4", "9+5;9+5;9+5;9+5;9+5;9+5;9+5;"}) {
            Run x = Run.typed(text);
            int first = x.parse();
            check.due("parse() of " + text + " again", x.parse(), first);
            check.due("clearText()", x.clearText(), text.length());
        }
        Run x = Run.road("4;");
        x.append("5;");
        check.due("parse() of more", x.parse(), 3);
    }

    private static void undoable(Check check) {
        check.undoable(busyAnd("4;4;4;4;"), "parse", Run::parse);
        check.undoable(Run.typed("2;"), "parse that changes nothing", Run::parse);
        Run x = busyAnd("4;4;4;4;");
        x.parse();
        x.undo();
        check.due("clearText(): undo() left the text", x.clearText(), 8);
        Run error = Run.typed("4;x");
        error.parse();
        check.badState(error, "undo() after a syntax error", Run::undo);
        error.addTeam(0, 0);
        error.parse();
        check.due("undo() of addTeam()", error.undo(), 0);
        check.due("value(1)", error.value(1), 0);
    }

    private static void numberOfInns(Check check) {
        for (int stages = 1; stages <= 7; stages++) {
            check.due("parse() of " + stages, busyAnd("1;".repeat(stages)).parse(), stages + 1);
        }
    }

    /** From the least position to the farthest that there can be. */
    private static void errorPosition(Check check) {
        check.due("parse() of an empty text", busyAnd("").parse(), -10);
        check.due("parse() of x", busyAnd("x").parse(), -10);
        for (int position = 0; position <= 27; position++) {
            String text = "9+5;".repeat(7).substring(0, position);
            int ends = position > 0 && position % 4 == 0 ? position / 4 + 1 : -10 - position;
            check.due("parse() of " + text, busyAnd(text).parse(), ends);
            check.due("parse() of " + text + "x", busyAnd(text + "x").parse(), -10 - position);
            check.due("parse() of " + text + "x at 90 bytes",
                busyAnd(text + "x".repeat(90 - position)).parse(), -10 - position);
        }
        check.due("parse() of an eighth stage", busyAnd("9+5;".repeat(8)).parse(), -38);
    }

    private static void nothingChanges(Check check) {
        for (String text : new String[] {"", "1", "1;x", "9+5;9+5;9+5;2;1;1;1;1", "1;2;3;4;5;6;7;8;"}) {
            check.changesNothing(busyAnd(text), "parse() of " + text, Run::parse);
            Run x = busyAnd(text);
            long before = x.digest();
            x.parse();
            check.due("digest() after parse() of " + text, x.digest(), before);
        }
    }
}
