/** Promise 16: bestInn. */
public final class Promise16Test {
    public static void main(String[] args) {
        Check check = new Check("Promise 16");
        check.sentence("Finds the inn at which one more team", Promise16Test::oneMoreTeam);
        check.sentence("with a tiredness of 0", Promise16Test::withoutTiredness);
        check.sentence("and this inn as its home", Promise16Test::itsHome);
        check.sentence("would let all letters be delivered soonest.", Promise16Test::soonest);
        check.sentence("Returns the inn, of several the lowest one", Promise16Test::lowestOfSeveral);
        check.sentence("NONE if there are 10 teams", Promise16Test::tenTeams);
        check.sentence("or all letters would not be delivered within 500 hours with any of them.", Promise16Test::within500);
        check.end();
    }

    /** The same by addTeam(), hoursToAll() and undo(), which may cost an older saved state. */
    private static int byTrying(Run y) {
        Run x = y.again();
        int best = PostRoad.NONE;
        int least = 501;
        for (int i = 0; i < x.value(0); i++) {
            x.addTeam(i, 0);
            int hours = x.hoursToAll();
            x.undo();
            if (hours != PostRoad.NONE && hours < least) {
                best = i;
                least = hours;
            }
        }
        return best;
    }

    private static void oneMoreTeam(Check check) {
        for (int inn = 0; inn < 7; inn++) {
            Run x = Run.road("3;2;4;1;1;2;1;");
            x.give(inn + 1, inn, false);
            check.due("bestInn() where the only letter lies", x.bestInn(), inn + 1);
            x.addTeam(0, 0);
            check.due("bestInn() with a team elsewhere", x.bestInn(), inn + 1);
        }
        theNewTeamTakesABed(check);
        check.changesNothing(Run.road("1;1;"), "bestInn()", Run::bestInn);
        check.changesNothing(TermsUndoTest.busy(), "bestInn()", Run::bestInn);
        check.changesNothing(Promise04Test.withTeams(9), "bestInn()", Run::bestInn);
    }

    /** With one bed at inn 1, a team put there keeps the letter from inn 0 away. */
    private static void theNewTeamTakesABed(Check check) {
        Run x = new Run();
        x.setInn(1, 1, 0, false);
        x.addTeam(0, 100);
        x.give(0, 1, false);
        check.due("bestInn()", x.bestInn(), 0);
        Run y = new Run();
        y.setInn(0, 1, 0, false);
        y.addTeam(1, 0);
        y.give(1, 0, false);
        check.due("bestInn() where inn 0 must stay free", y.bestInn(), 1);
    }

    /** The new team eats nothing before it has run: one of tiredness 1 would eat at inn 1, and inn 0 would be best. */
    private static void withoutTiredness(Check check) {
        Run x = Run.road("9;");
        x.setInn(0, 2, 0, false);
        x.setInn(1, 2, 2, false);
        x.addTeam(0, 65);
        for (int i = 0; i < 4; i++) {
            x.give(i < 2 ? 1 : 0, i < 2 ? 0 : 1, false);
        }
        check.due("bestInn() with scarce fodder", x.bestInn(), 1);
        check.due("bestInn() with scarce fodder, by trying", byTrying(x), 1);
    }

    /** It walks back to it for the next letter. */
    private static void itsHome(Check check) {
        Run x = Run.road("1;1;");
        x.give(1, 2, false);
        x.give(1, 2, false);
        check.due("bestInn() of two letters away from inn 0", x.bestInn(), 1);
        Run toward = Run.road("1;1;");
        toward.give(1, 0, false);
        toward.give(1, 0, false);
        check.due("bestInn() of two letters toward inn 0", toward.bestInn(), 1);
        x.give(0, 2, true);
        check.due("bestInn() with an express letter", x.bestInn(), byTrying(x));
    }

    private static void soonest(Check check) {
        Run x = Run.road("2+3;1;3-2;2;");
        for (int i = 0; i < 4; i++) {
            x.give((i + 2) % 5, i, i % 2 == 1);
            x.addTeam(4 - i, 90 - i);
            check.due("bestInn() with " + (i + 1) + " letters", x.bestInn(), byTrying(x));
        }
        Run busy = TermsUndoTest.busy();
        busy.setStage(2, 3, -2, false);
        busy.setInn(3, 2, 100, false);
        for (int hour = 0; hour < 12; hour++) {
            check.due("bestInn() of a busy one", busy.bestInn(), byTrying(busy));
            busy.pass(1);
        }
    }

    private static void lowestOfSeveral(Check check) {
        check.due("bestInn() without letters", Run.road("3;2;4;").bestInn(), 0);
        Run x = Run.road("2;2;2;");
        x.setInn(3, 2, 0, false);
        x.setInn(1, 2, 0, false);
        x.give(3, 2, false);
        x.addTeam(3, 100);
        check.due("bestInn()", x.bestInn(), 3);
        x.give(1, 0, false);
        x.addTeam(1, 100);
        check.due("bestInn() where each of two is as good as none", x.bestInn(), 0);
        Run notTheFirst = Run.road("1;1;1;");
        notTheFirst.setInn(0, 2, 100, true);
        notTheFirst.setStage(0, 1, 0, true);
        notTheFirst.give(1, 2, false);
        notTheFirst.give(2, 1, false);
        check.due("bestInn() of 1 and 2 that are as good", notTheFirst.bestInn(), 1);
    }

    private static void tenTeams(Check check) {
        for (int teams = 0; teams <= 10; teams++) {
            Run x = Promise04Test.withTeams(teams);
            check.due("bestInn() with " + teams + " teams and no letters", x.bestInn(), teams < 10 ? 0 : -1);
            x.give(1, 0, false);
            check.due("bestInn() with " + teams + " teams", x.bestInn(), teams == 0 ? 1 : teams < 10 ? 0 : -1);
        }
    }

    /** Twelve letters over a steep stage, without fodder: the tiredness of the other team sets the hour of the last. */
    private static void within500(Check check) {
        check.due("bestInn() of 500 hours", shuttle(72).bestInn(), 0);
        check.due("bestInn() of 501 hours", shuttle(73).bestInn(), -1);
        Run x = shuttle(72);
        x.addTeam(0, 0);
        check.due("hoursToAll() with that team", x.hoursToAll(), 500);
        Run never = Run.road("3;2;4;");
        never.give(2, 3, false);
        never.setStage(2, 4, 0, true);
        check.due("bestInn() before a blocked stage", never.bestInn(), -1);
        never.setStage(2, 4, 0, false);
        check.due("bestInn() when it is open", never.bestInn(), 2);
        Run last = Run.road("1;1;1;1;1;1;1;");
        last.give(7, 6, false);
        check.due("bestInn(), the last of eight", last.bestInn(), 7);
    }

    private static Run shuttle(int tiredness) {
        Run x = Run.road("8+5;");
        x.setInn(0, 2, 0, false);
        x.setInn(1, 6, 0, false);
        x.addTeam(0, tiredness);
        for (int i = 0; i < 12; i++) {
            x.give(0, 1, false);
        }
        return x;
    }
}
