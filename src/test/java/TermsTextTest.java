/** The term "Text". */
public final class TermsTextTest {
    private static final String SEVEN = "1;1;1;1;1;1;1;";

    public static void main(String[] args) {
        Check check = new Check("Text");
        check.sentence("The text has at most 90 bytes.", TermsTextTest::atMostNinety);
        check.sentence("It is a road: the stages from stage 0 on, each terminated by a semicolon", TermsTextTest::stages);
        check.sentence("its hours (a digit 1 to 9)", TermsTextTest::hours);
        check.sentence("and perhaps + or -", TermsTextTest::signs);
        check.sentence("and a digit 1 to 5, its hill.", TermsTextTest::hill);
        check.sentence("There are 1 to 7 stages, one inn more.", TermsTextTest::oneToSeven);
        check.sentence("There are no spaces.", TermsTextTest::noSpaces);
        check.sentence("The syntax error position is the index of the first byte that cannot stand where it stands",
            TermsTextTest::firstWrongByte);
        check.sentence("(the first digit of an eighth stage, too)", TermsTextTest::eighthStage);
        check.sentence("or the length of the text if the text ends too early", TermsTextTest::endsTooEarly);
        check.sentence("(also if it is empty).", TermsTextTest::empty);
        check.end();
    }

    private static void parses(Check check, String text, int want) {
        check.due("parse() of '" + text + "'", Run.typed(text).parse(), want);
    }

    private static void atMostNinety(Check check) {
        Run x = Run.typed("1".repeat(89));
        check.due("append at 89 bytes", x.append('2'), 90);
        check.badState(x, "append at 90 bytes", r -> r.append('3'));
        check.badState(x, "append at 90 bytes again", r -> r.append(0));
        check.due("clearText()", x.clearText(), 90);
        check.due("append", x.append('4'), 1);
        parses(check, SEVEN.substring(2) + "1+5;" + "1;".repeat(37), -10 - 16);
        parses(check, "1;" + ";".repeat(88), -12);
    }

    private static void stages(Check check) {
        Run x = Run.road("1+1;2-2;3;4-4;5+5;6-1;9;");
        int[] hours = {1, 2, 3, 4, 5, 6, 9};
        int[] hills = {1, -2, 0, -4, 5, -1, 0};
        for (int i = 0; i < 7; i++) {
            check.stage(x, i, hours[i], hills[i], 0);
        }
        parses(check, "1", -11);
        parses(check, "1;1", -13);
        parses(check, ";", -10);
        parses(check, "1;;", -12);
        parses(check, ";1;", -10);
        parses(check, "1,", -11);
        parses(check, "1:", -11);
    }

    /** '0' and ':' stand beside the digits. */
    private static void hours(Check check) {
        for (char digit = '1'; digit <= '9'; digit++) {
            Run x = Run.road(digit + ";" + digit + "+1;");
            check.due("value(0)", x.value(0), 3);
            check.stage(x, 0, digit - '0', 0, 0);
            check.stage(x, 1, digit - '0', 1, 0);
        }
        parses(check, "0;", -10);
        parses(check, ":;", -10);
        parses(check, "1;0;", -12);
        parses(check, "+1;", -10);
        parses(check, "10;", -11);
        parses(check, "11;", -11);
    }

    /** ',' stands between the signs, '*' and '.' beside them. */
    private static void signs(Check check) {
        check.stage(Run.road("4+3;"), 0, 4, 3, 0);
        check.stage(Run.road("4-3;"), 0, 4, -3, 0);
        check.stage(Run.road("4;"), 0, 4, 0, 0);
        parses(check, "4*3;", -11);
        parses(check, "4,3;", -11);
        parses(check, "4.3;", -11);
        parses(check, "4+-3;", -12);
        parses(check, "4--3;", -12);
        parses(check, "4+;", -12);
        parses(check, "4-;", -12);
        parses(check, "4+3+3;", -13);
    }

    private static void hill(Check check) {
        for (char digit = '1'; digit <= '5'; digit++) {
            check.stage(Run.road("9+" + digit + ";"), 0, 9, digit - '0', 0);
            check.stage(Run.road("9-" + digit + ";"), 0, 9, '0' - digit, 0);
        }
        for (String sign : new String[] {"+", "-"}) {
            parses(check, "9" + sign + "0;", -12);
            parses(check, "9" + sign + "6;", -12);
            parses(check, "9" + sign + "9;", -12);
            parses(check, "9" + sign + "/;", -12);
            parses(check, "9" + sign + "55;", -13);
        }
    }

    private static void oneToSeven(Check check) {
        parses(check, "", -10);
        for (int stages = 1; stages <= 7; stages++) {
            parses(check, "3;".repeat(stages), stages + 1);
            parses(check, "9+5;".repeat(stages), stages + 1);
            check.due("value(0) of " + stages, Run.road("3-1;".repeat(stages)).value(0), stages + 1);
        }
        parses(check, "3;".repeat(8), -24);
        parses(check, "9+5;".repeat(8), -38);
    }

    private static void noSpaces(Check check) {
        parses(check, " 1;", -10);
        parses(check, "1 ;", -11);
        parses(check, "1; ", -12);
        parses(check, "1; 1;", -12);
        parses(check, "1+ 1;", -12);
        parses(check, "1+1 ;", -13);
        parses(check, "1\n;", -11);
        parses(check, "1;\t", -12);
        parses(check, SEVEN + " ", -24);
    }

    /** Each of the 128 bytes at each kind of place, also in the last stage. */
    private static void firstWrongByte(Check check) {
        String[] starts = {"", "4", "4-", "4-4"};
        String[] fits = {"123456789", "+-;", "12345", ";"};
        for (String ahead : new String[] {"", "3;", "9+5;9-5;9+5;9-5;9+5;9-5;"}) {
            for (int i = 0; i < starts.length; i++) {
                for (char next = 0; next < 128; next++) {
                    bytes(check, ahead + starts[i], next, fits[i].indexOf(next) >= 0);
                }
            }
        }
        parses(check, "1;2x3y", -13);
        parses(check, "x;", -10);
    }

    /** Behind a byte that can stand comes one that never can. */
    private static void bytes(Check check, String start, char next, boolean fits) {
        int wrong = start.length() + (fits ? 1 : 0);
        parses(check, start + next + "x1;", -10 - wrong);
    }

    private static void eighthStage(Check check) {
        parses(check, SEVEN, 8);
        parses(check, SEVEN + "1", -24);
        parses(check, SEVEN + "1;", -24);
        parses(check, SEVEN + "9+5;", -24);
        parses(check, SEVEN + ";", -24);
        parses(check, SEVEN + "x", -24);
        parses(check, "9+5;".repeat(7) + "9", -38);
        parses(check, "9+5;".repeat(6) + "9+5", -37);
    }

    private static void endsTooEarly(Check check) {
        parses(check, "1", -11);
        parses(check, "1+", -12);
        parses(check, "1-5", -13);
        parses(check, "1-5;2", -15);
        parses(check, "1;2+3;4-", -18);
        parses(check, "1;1;1;1;1;1;1", -23);
        parses(check, "1;1;1;1;1;1;1-", -24);
        parses(check, "1;1;1;1;1;1;1-1", -25);
    }

    private static void empty(Check check) {
        parses(check, "", -10);
        Run x = Run.typed("1;");
        x.clearText();
        check.due("parse() of a text that was emptied", x.parse(), -10);
        x.append("2");
        check.due("parse() of one byte", x.parse(), -11);
    }
}
