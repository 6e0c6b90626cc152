/** Promise 17: way. */
public final class Promise17Test {
    private static final String LONGEST = "1;2+5;4;8;9-5;3;7;";
    /** The hours from inn 0 to each inn. */
    private static final int[] AT = {0, 1, 3, 7, 15, 24, 27, 34};

    public static void main(String[] args) {
        Check check = new Check("Promise 17");
        check.sentence("Returns the least hours of the way between two inns, by the stages alone.", Promise17Test::stagesAlone);
        check.sentence("- from: number of an inn", Promise17Test::eachPair);
        check.sentence("- to: number of an inn", Promise17Test::eachPair);
        check.sentence("Returns the sum of the hours of the stages between them.", Promise17Test::sum);
        check.sentence("Throws IndexOutOfBoundsException if there is no such inn", Promise17Test::noSuchInn);
        check.end();
    }

    /** Neither a blocked stage nor a shut inn nor a hill nor teams on the way count. */
    private static void stagesAlone(Check check) {
        Run x = Run.road(LONGEST);
        x.setStage(1, 2, -5, true);
        x.setInn(1, 0, 0, true);
        x.addTeam(0, 100);
        x.addTeam(0, 0);
        x.give(0, 7, false);
        x.pass(1);
        check.due("way(0, 3)", x.way(0, 3), 7);
        check.due("way(3, 0)", x.way(3, 0), 7);
        check.changesNothing(TermsUndoTest.busy(), "way(0, 3)", r -> r.way(0, 3));
    }

    private static void eachPair(Check check) {
        Run x = Run.road(LONGEST);
        for (int from = 0; from < 8; from++) {
            for (int to = 0; to < 8; to++) {
                check.due("way(" + from + ", " + to + ")", x.way(from, to), Math.abs(AT[from] - AT[to]));
            }
        }
    }

    /** None from an inn to itself, one between neighbours, all from end to end; as the stages are now. */
    private static void sum(Check check) {
        Run least = Run.road("1;1;1;1;1;1;1;");
        Run most = Run.road("9;9;9;9;9;9;9;");
        for (int to = 0; to < 8; to++) {
            check.due("way(0, " + to + ")", least.way(0, to), to);
            check.due("way(" + to + ", 0)", most.way(to, 0), 9 * to);
            check.due("way(" + to + ", " + to + ")", most.way(to, to), 0);
        }
        most.setStage(6, 1, 0, false);
        check.due("way(0, 7)", most.way(0, 7), 55);
        check.due("way(0, 6)", most.way(0, 6), 54);
        check.due("way(0, 1) of a new road", new Run().way(0, 1), 2);
    }

    private static void noSuchInn(Check check) {
        check.numbers(Run::new, "way from", 2, (x, i) -> x.way(i, 0));
        check.numbers(Run::new, "way to", 2, (x, i) -> x.way(1, i));
        check.numbers(() -> Run.road(LONGEST), "way from", 8, (x, i) -> x.way(i, 7));
        check.numbers(() -> Run.road(LONGEST), "way to", 8, (x, i) -> x.way(0, i));
        check.badIndex(new Run(), "way(2, 2)", x -> x.way(2, 2));
        check.badIndex(new Run(), "way(-1, -1)", x -> x.way(-1, -1));
    }
}
