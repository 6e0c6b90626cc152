/** The constants. */
public final class TermsConstantsTest {
    public static void main(String[] args) {
        Check check = new Check("The constants");
        check.sentence("NONE = -1: There is no such thing.", TermsConstantsTest::none);
        check.end();
    }

    /** Where the document answers it: no letter, no team, no hour of delivery, no hours, no inn. */
    private static void none(Check check) {
        check.due("NONE", PostRoad.NONE, -1);
        Run x = new Run();
        x.give(0, 1, false);
        check.due("letter(0, 5)", x.letter(0, 5), PostRoad.NONE);
        check.due("letter(0, 6)", x.letter(0, 6), PostRoad.NONE);
        check.due("hoursTo(0)", x.hoursTo(0), PostRoad.NONE);
        check.due("hoursToAll()", x.hoursToAll(), PostRoad.NONE);
        for (int i = 0; i < 10; i++) {
            x.addTeam(0, 0);
        }
        check.due("team(0, 4)", x.team(0, 4), PostRoad.NONE);
        check.due("bestInn()", x.bestInn(), PostRoad.NONE);
    }
}
