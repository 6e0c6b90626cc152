/** The term "Road". */
public final class TermsRoadTest {
    private static final String LONGEST = "1;2;3;4;5;6;7;";

    public static void main(String[] args) {
        Check check = new Check("Road");
        check.sentence("There are 2 to 8 inns in a row", TermsRoadTest::twoToEight);
        check.sentence("numbered from 0", TermsRoadTest::fromZero);
        check.sentence("initially 2", TermsRoadTest::twoAtFirst);
        check.sentence("Stage k lies between inn k and inn k + 1", TermsRoadTest::stageBetweenInns);
        check.sentence("it has hours, 1 to 9 (initially 2)", TermsRoadTest::hours);
        check.sentence("a hill, -5 to 5 (initially 0)", TermsRoadTest::hill);
        check.sentence("above 0 it rises from inn k to inn k + 1", TermsRoadTest::rises);
        check.sentence("A stage is blocked or not.", TermsRoadTest::blocked);
        check.sentence("An inn has beds, 0 to 6 (initially 2)", TermsRoadTest::beds);
        check.sentence("the teams that can stand in its stable", TermsRoadTest::bedsAreRoomForTeams);
        check.sentence("fodder, 0 to 999 (initially 100)", TermsRoadTest::fodder);
        check.sentence("is shut or not", TermsRoadTest::shut);
        check.end();
    }

    private static void twoToEight(Check check) {
        for (int stages = 1; stages <= 7; stages++) {
            String text = LONGEST.substring(0, 2 * stages);
            check.due("value(0) of " + text, Run.road(text).value(0), stages + 1);
            check.numbers(() -> Run.road(text), "inn of " + text, stages + 1, (x, i) -> x.inn(i, 0));
            check.numbers(() -> Run.road(text), "stage of " + text, stages, (x, i) -> x.stage(i, 0));
        }
        check.due("parse() of eight stages", Run.typed(LONGEST + "8;").parse(), -24);
        check.due("parse() of no stage", Run.typed("").parse(), -10);
    }

    private static void fromZero(Check check) {
        Run x = Run.road("1;2;");
        x.setInn(0, 1, 11, false);
        x.setInn(2, 3, 33, true);
        check.inn(x, 0, 1, 11, 0);
        check.inn(x, 1, 2, 100, 0);
        check.inn(x, 2, 3, 33, 1);
        check.badIndex(x, "inn(-1, 0)", r -> r.inn(-1, 0));
        check.badIndex(x, "inn(3, 0)", r -> r.inn(3, 0));
    }

    private static void twoAtFirst(Check check) {
        check.due("value(0)", new Run().value(0), 2);
        check.numbers(Run::new, "inn of a new road", 2, (x, i) -> x.inn(i, 6));
        check.numbers(Run::new, "stage of a new road", 1, (x, i) -> x.stage(i, 5));
    }

    private static void stageBetweenInns(Check check) {
        for (int k = 0; k < 7; k++) {
            Run away = Run.road(LONGEST);
            away.addTeam(k, 0);
            away.give(k, k + 1, false);
            onStageAlone(check, away, k, k + 1);
            Run back = Run.road(LONGEST);
            back.addTeam(k + 1, 0);
            back.give(k + 1, k, false);
            onStageAlone(check, back, k, k);
        }
    }

    /** The stage k of the longest road has k + 1 hours. */
    private static void onStageAlone(Check check, Run x, int k, int inn) {
        x.pass(1);
        check.due("team(0, 2) on stage " + k, x.team(0, 2), inn);
        check.due("team(0, 3) on stage " + k, x.team(0, 3), k + 1);
        for (int i = 0; i < 7; i++) {
            check.due("stage(" + i + ", 5) with a team on " + k, x.stage(i, 5), i == k ? 1 : 0);
        }
    }

    private static void hours(Check check) {
        check.due("stage(0, 0) at first", new Run().stage(0, 0), 2);
        check.range(Run::new, "setStage, hours", 1, 9, (x, v) -> x.setStage(0, v, 0, false));
        for (int hours = 1; hours <= 9; hours++) {
            Run x = new Run();
            x.setStage(0, hours, 0, false);
            check.due("stage(0, 0)", x.stage(0, 0), hours);
            check.due("way(0, 1)", x.way(0, 1), hours);
        }
    }

    private static void hill(Check check) {
        check.due("stage(0, 1) at first", new Run().stage(0, 1), 0);
        check.range(Run::new, "setStage, hill", -5, 5, (x, v) -> x.setStage(0, 2, v, false));
        for (int hill = -5; hill <= 5; hill++) {
            Run x = new Run();
            x.setStage(0, 2, hill, false);
            check.due("stage(0, 1)", x.stage(0, 1), hill);
        }
    }

    private static void rises(Check check) {
        int[][] want = {{11, 19}, {15, 15}, {19, 11}};
        for (int hill = -1; hill <= 1; hill++) {
            Run x = new Run();
            x.setStage(0, 3, hill, false);
            check.due("stage(0, 3) with hill " + hill, x.stage(0, 3), want[hill + 1][0]);
            check.due("stage(0, 4) with hill " + hill, x.stage(0, 4), want[hill + 1][1]);
        }
    }

    private static void blocked(Check check) {
        Run x = new Run();
        check.due("stage(0, 2) at first", x.stage(0, 2), 0);
        x.setStage(0, 2, 0, true);
        check.due("stage(0, 2)", x.stage(0, 2), 1);
        x.setStage(0, 2, 0, false);
        check.due("stage(0, 2)", x.stage(0, 2), 0);
    }

    private static void beds(Check check) {
        check.due("inn(0, 0) at first", new Run().inn(0, 0), 2);
        check.due("inn(1, 0) at first", new Run().inn(1, 0), 2);
        check.range(Run::new, "setInn, beds", 0, 6, (x, v) -> x.setInn(1, v, 100, false));
        for (int beds = 0; beds <= 6; beds++) {
            Run x = new Run();
            x.setInn(1, beds, 100, false);
            check.due("inn(1, 0)", x.inn(1, 0), beds);
        }
    }

    /** Of eight teams with a letter each, as many come as there are beds. */
    private static void bedsAreRoomForTeams(Check check) {
        for (int beds = 0; beds <= 6; beds++) {
            Run x = new Run();
            x.setInn(1, beds, 100, false);
            for (int i = 0; i < 8; i++) {
                x.addTeam(0, 0);
                x.give(0, 1, false);
            }
            x.pass(1);
            check.due("stage(0, 5) toward " + beds + " beds", x.stage(0, 5), beds);
            check.due("inn(1, 6) of " + beds + " beds", x.inn(1, 6), 0);
            check.due("pass(2) toward " + beds + " beds", x.pass(2), beds);
            check.due("inn(1, 3) of " + beds + " beds", x.inn(1, 3), beds);
        }
    }

    private static void fodder(Check check) {
        check.due("inn(0, 1) at first", new Run().inn(0, 1), 100);
        check.due("inn(1, 1) at first", new Run().inn(1, 1), 100);
        check.range(Run::new, "setInn, fodder", 0, 999, (x, v) -> x.setInn(1, 2, v, false));
        for (int fodder : new int[] {0, 1, 998, 999}) {
            Run x = new Run();
            x.setInn(1, 2, fodder, false);
            check.due("inn(1, 1)", x.inn(1, 1), fodder);
            x.addTeam(1, 3);
            x.pass(1);
            check.due("inn(1, 1) of which one was eaten", x.inn(1, 1), Math.max(0, fodder - 1));
        }
    }

    private static void shut(Check check) {
        Run x = new Run();
        check.due("inn(1, 2) at first", x.inn(1, 2), 0);
        x.setInn(1, 2, 100, true);
        check.due("inn(1, 2)", x.inn(1, 2), 1);
        check.due("inn(0, 2)", x.inn(0, 2), 0);
        x.setInn(1, 2, 100, false);
        check.due("inn(1, 2)", x.inn(1, 2), 0);
    }
}
