/** Promise 19: meanTiredness. */
public final class Promise19Test {
    public static void main(String[] args) {
        Check check = new Check("Promise 19");
        check.sentence("Returns the mean tiredness of the teams.", Promise19Test::mean);
        check.sentence("Returns the sum of all tirednesses, converted to double, divided by the number of teams, "
            + "converted to double", Promise19Test::sumByNumber);
        check.sentence("0.0 without teams.", Promise19Test::withoutTeams);
        check.end();
    }

    /** Also of those on stages, and as it is now. */
    private static void mean(Check check) {
        Run x = Run.road("9;");
        x.addTeam(0, 100);
        check.due("meanTiredness() of 100", x.meanTiredness(), 100.0);
        x.addTeam(1, 1);
        check.due("meanTiredness() of 100, 1", x.meanTiredness(), 50.5);
        x.addTeam(1, 0);
        check.due("meanTiredness() of 100, 1, 0", x.meanTiredness(), 101.0 / 3.0);
        x.give(1, 0, false);
        x.pass(1);
        check.due("meanTiredness() of 94, 0, 0", x.meanTiredness(), 94.0 / 3.0);
        x.pass(9);
        check.due("meanTiredness() of 40, 45, 0", x.meanTiredness(), 85.0 / 3.0);
        x.undo();
        check.due("meanTiredness() after undo()", x.meanTiredness(), 94.0 / 3.0);
        check.changesNothing(TermsUndoTest.busy(), "meanTiredness()", Run::meanTiredness);
    }

    /** One to ten teams, the least and the most sum, and quotients that no double holds exactly. */
    private static void sumByNumber(Check check) {
        for (int tiredness : new int[] {0, 1, 7, 100}) {
            Run x = new Run();
            for (int teams = 1; teams <= 10; teams++) {
                x.addTeam(0, tiredness);
                check.due("meanTiredness() of " + teams, x.meanTiredness(), (double) tiredness);
            }
        }
        Run x = new Run();
        int sum = 0;
        for (int teams = 1; teams <= 10; teams++) {
            x.addTeam(0, 3 * teams % 7);
            sum += 3 * teams % 7;
            check.due("meanTiredness() of " + teams, x.meanTiredness(), (double) sum / (double) teams);
        }
        check.due("meanTiredness() of ten", x.meanTiredness(), 3.2);
        x.undo();
        x.addTeam(0, 9);
        check.due("meanTiredness() of ten", x.meanTiredness(), 3.9);
    }

    private static void withoutTeams(Check check) {
        Run x = new Run();
        check.due("meanTiredness() of a new road", x.meanTiredness(), 0.0);
        x.addTeam(0, 5);
        check.due("meanTiredness() of one", x.meanTiredness(), 5.0);
        x.undo();
        check.due("meanTiredness() after undo()", x.meanTiredness(), 0.0);
        x.addTeam(0, 5);
        x.append("1;");
        x.parse();
        check.due("meanTiredness() after parse()", x.meanTiredness(), 0.0);
        x.addTeam(0, 0);
        check.due("meanTiredness() of a rested one", x.meanTiredness(), 0.0);
    }
}
