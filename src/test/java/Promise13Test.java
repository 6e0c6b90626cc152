/** Promise 13: why. */
public final class Promise13Test {
    public static void main(String[] args) {
        Check check = new Check("Promise 13");
        check.sentence("Tells why a letter would not go on in the next hour by part 3", Promise13Test::asPartThree);
        check.sentence("as it is now (rest and roads ahead of that do not matter).", Promise13Test::asItIsNow);
        check.sentence("- letter: number of a letter", Promise13Test::eachLetter);
        check.sentence("Returns 0 it could go on, if no other letter took team or bed", Promise13Test::couldGoOn);
        check.sentence("1 it is delivered", Promise13Test::delivered);
        check.sentence("2 it is on a stage", Promise13Test::onAStage);
        check.sentence("3 the stage is blocked", Promise13Test::blocked);
        check.sentence("4 an inn is shut", Promise13Test::shut);
        check.sentence("5 no free bed", Promise13Test::noFreeBed);
        check.sentence("6 no team", Promise13Test::noTeam);
        check.sentence("7 teams, but all too tired", Promise13Test::tooTired);
        check.sentence("of several the first one.", Promise13Test::firstOfSeveral);
        check.sentence("Throws IndexOutOfBoundsException if there is no such letter", Promise13Test::noSuchLetter);
        check.end();
    }

    /** One letter alone and rested or unfed teams: with 0 it goes in the next hour, with others it does not. */
    private static void asPartThree(Check check) {
        for (int hindered = 0; hindered < 32; hindered++) {
            Run x = Run.road("4+1;");
            x.setInn(1, 2, 0, (hindered & 1) != 0);
            x.setInn(0, (hindered & 2) != 0 ? 0 : 1, 0, false);
            x.setStage(0, 4, 1, (hindered & 4) != 0);
            x.give(1, 0, hindered % 3 == 0);
            if ((hindered & 8) == 0) {
                x.addTeam(1, (hindered & 16) != 0 ? 100 : 84);
            }
            int why = x.why(0);
            x.pass(1);
            check.due("why(0) and letter(0, 7), case " + hindered, x.letter(0, 7), why == 0 ? 1 : 0);
        }
    }

    /** Rest would make the team fit, and the team that is on its way would be there. */
    private static void asItIsNow(Check check) {
        Run x = Run.road("2;2;");
        x.addTeam(0, 91);
        x.give(0, 1, false);
        check.due("why(0)", x.why(0), 7);
        x.pass(1);
        check.due("why(0)", x.why(0), 2);
        x.give(1, 2, false);
        x.pass(1);
        check.due("why(1) an hour ahead of a team", x.why(1), 6);
        check.due("why(0) an hour ahead of its end", x.why(0), 2);
        x.pass(1);
        check.due("why(0)", x.why(0), 1);
        check.due("why(1) with a team that came with 95", x.why(1), 7);
        Run bed = new Run();
        bed.setInn(1, 1, 100, false);
        bed.addTeam(1, 0);
        bed.addTeam(0, 0);
        bed.give(1, 0, true);
        bed.give(0, 1, false);
        check.due("why(1) with a bed that becomes free in the next hour", bed.why(1), 5);
        bed.pass(1);
        check.due("letter(1, 7)", bed.letter(1, 7), 1);
    }

    /** Twelve letters: delivered, on a stage, and lying at each inn; inn 1 has two beds and a team at it and to it. */
    private static void eachLetter(Check check) {
        Run x = Run.road("1;9;");
        x.addTeam(0, 0);
        x.addTeam(2, 0);
        x.give(0, 1, true);
        x.give(2, 1, true);
        x.pass(2);
        for (int i = 2; i < 12; i++) {
            x.give(i % 3, (i + 1) % 3, false);
        }
        x.addTeam(2, 0);
        int[] want = {1, 2, 5, 5, 0, 5, 5, 0, 5, 5, 0, 5};
        for (int i = 0; i < 12; i++) {
            check.due("why(" + i + ")", x.why(i), want[i]);
        }
    }

    /** Each of two letters could go on with the one team to the one bed. */
    private static void couldGoOn(Check check) {
        Run x = new Run();
        x.setInn(1, 1, 0, false);
        x.addTeam(0, 0);
        x.give(0, 1, true);
        x.give(0, 1, false);
        check.due("why(0)", x.why(0), 0);
        check.due("why(1)", x.why(1), 0);
        x.pass(1);
        check.due("why(0)", x.why(0), 2);
        check.due("why(1)", x.why(1), 5);
    }

    private static void delivered(Check check) {
        Run x = Run.road("1;");
        x.addTeam(0, 0);
        x.give(0, 1, false);
        x.pass(1);
        check.due("why(0) an hour ahead", x.why(0), 2);
        x.pass(1);
        check.due("why(0)", x.why(0), 1);
        x.setStage(0, 1, 0, true);
        x.setInn(0, 0, 0, true);
        x.setInn(1, 0, 0, true);
        check.due("why(0) with all that could hinder", x.why(0), 1);
    }

    private static void onAStage(Check check) {
        Run x = Run.road("2;2;");
        x.addTeam(0, 0);
        x.give(0, 2, false);
        x.pass(1);
        check.due("why(0)", x.why(0), 2);
        x.setStage(0, 2, 0, true);
        x.setInn(0, 0, 0, true);
        x.setInn(1, 0, 0, true);
        check.due("why(0) with all that could hinder", x.why(0), 2);
        x.pass(2);
        check.due("why(0) at the inn on its way", x.why(0), 4);
    }

    /** A letter each way from inn 1, with two teams. */
    private static Run bothWays() {
        Run x = Run.road("1;1;");
        x.addTeam(1, 0);
        x.give(1, 0, false);
        x.give(1, 2, false);
        return x;
    }

    private static void whys(Check check, Run x, int first, int second) {
        check.due("why(0)", x.why(0), first);
        check.due("why(1)", x.why(1), second);
    }

    private static void blocked(Check check) {
        Run x = bothWays();
        whys(check, x, 0, 0);
        x.setStage(0, 1, 0, true);
        whys(check, x, 3, 0);
        x.setStage(1, 1, 0, true);
        whys(check, x, 3, 3);
        x.setStage(0, 1, 0, false);
        whys(check, x, 0, 3);
        x.setStage(1, 1, 0, false);
        whys(check, x, 0, 0);
        Run farther = Run.road("1;1;");
        farther.addTeam(0, 0);
        farther.give(0, 2, false);
        farther.setStage(1, 1, 0, true);
        check.due("why(0) with a stage blocked behind the next", farther.why(0), 0);
    }

    private static void shut(Check check) {
        Run x = bothWays();
        x.setInn(0, 2, 0, true);
        whys(check, x, 4, 0);
        x.setInn(2, 2, 0, true);
        whys(check, x, 4, 4);
        x.setInn(0, 2, 0, false);
        whys(check, x, 0, 4);
        x.setInn(2, 2, 0, false);
        x.setInn(1, 2, 0, true);
        whys(check, x, 4, 4);
        x.setInn(1, 2, 0, false);
        whys(check, x, 0, 0);
        Run farther = Run.road("1;1;");
        farther.addTeam(0, 0);
        farther.give(0, 2, false);
        farther.setInn(2, 2, 0, true);
        check.due("why(0) with an inn shut behind the next", farther.why(0), 0);
    }

    /** As many teams as beds, more, and one fewer. */
    private static void noFreeBed(Check check) {
        for (int beds = 0; beds <= 6; beds++) {
            for (int teams = 0; teams <= 9; teams++) {
                Run x = new Run();
                x.give(0, 1, false);
                x.addTeam(0, 0);
                for (int i = 0; i < teams; i++) {
                    x.addTeam(1, 0);
                }
                x.setInn(1, beds, 0, false);
                check.due("why(0) with " + teams + " teams, " + beds + " beds", x.why(0), teams < beds ? 0 : 5);
            }
        }
        Run coming = Run.road("1;1;");
        coming.setInn(1, 1, 0, false);
        coming.addTeam(0, 0);
        coming.addTeam(2, 0);
        coming.give(0, 1, false);
        coming.pass(1);
        coming.give(2, 1, false);
        check.due("why(1) with a team on the other stage to it", coming.why(1), 5);
        check.due("inn(1, 3)", coming.inn(1, 3), 0);
    }

    private static void noTeam(Check check) {
        Run x = Run.road("3;3;");
        x.setInn(1, 6, 0, false);
        x.give(0, 1, false);
        check.due("why(0) without teams", x.why(0), 6);
        x.addTeam(1, 0);
        x.addTeam(2, 0);
        check.due("why(0) with teams elsewhere", x.why(0), 6);
        x.give(1, 0, true);
        x.pass(1);
        check.due("why(0) with a team on a stage to it", x.why(0), 6);
        x.pass(3);
        check.due("why(0) when it has gone with that team", x.why(0), 2);
    }

    /** The most tiredness that fits, and one more: up a hill, down a hill, and at the least effort. */
    private static void tooTired(Check check) {
        fits(check, "9+5;", 0, 35);
        fits(check, "9+5;", 1, 75);
        fits(check, "9-5;", 0, 75);
        fits(check, "4-5;", 0, 95);
        fits(check, "1;", 1, 95);
        Run x = new Run();
        x.give(0, 1, false);
        for (int i = 0; i < 9; i++) {
            x.addTeam(0, 100 - i);
            check.due("why(0) with " + (i + 1) + " tired teams", x.why(0), 7);
        }
        x.addTeam(0, 90);
        check.due("why(0) with one that fits, the last of ten", x.why(0), 0);
    }

    private static void fits(Check check, String stage, int from, int most) {
        Run x = Run.road(stage);
        x.give(from, 1 - from, false);
        x.addTeam(from, most + 1);
        check.due("why(0) with " + (most + 1), x.why(0), 7);
        x.addTeam(from, 100);
        check.due("why(0) with " + (most + 1) + " and 100", x.why(0), 7);
        x.addTeam(from, most);
        check.due("why(0) with " + most, x.why(0), 0);
    }

    /** All hindrances at once, then taken away from the first on. */
    private static void firstOfSeveral(Check check) {
        for (int shutInn = 0; shutInn < 2; shutInn++) {
            Run x = Run.road("9-5;");
            x.give(1, 0, false);
            x.setStage(0, 9, -5, true);
            x.setInn(0, 0, 0, shutInn == 0);
            x.setInn(1, 2, 0, shutInn == 1);
            check.due("why(0)", x.why(0), 3);
            x.setStage(0, 9, -5, false);
            check.due("why(0)", x.why(0), 4);
            x.setInn(1, 2, 0, false);
            x.setInn(0, 0, 0, false);
            check.due("why(0)", x.why(0), 5);
            x.setInn(0, 1, 0, false);
            check.due("why(0)", x.why(0), 6);
            x.addTeam(1, 36);
            check.due("why(0)", x.why(0), 7);
            x.addTeam(1, 35);
            check.due("why(0)", x.why(0), 0);
            x.setInn(0, 0, 0, false);
            check.due("why(0) without a bed, with teams", x.why(0), 5);
        }
        blockedWithATeam(check);
    }

    private static void blockedWithATeam(Check check) {
        Run x = new Run();
        x.addTeam(0, 100);
        x.give(0, 1, false);
        check.due("why(0)", x.why(0), 7);
        x.setStage(0, 2, 0, true);
        check.due("why(0) with a tired team and a blocked stage", x.why(0), 3);
        x.setInn(1, 0, 0, true);
        check.due("why(0) with a shut inn, too", x.why(0), 3);
        x.setStage(0, 2, 0, false);
        check.due("why(0) with a tired team and a shut inn", x.why(0), 4);
    }

    private static void noSuchLetter(Check check) {
        check.numbers(Run::new, "why", 0, (x, i) -> x.why(i));
        check.numbers(Promise13Test::bothWays, "why", 2, (x, i) -> x.why(i));
        Run x = Run.road("1;");
        x.addTeam(0, 0);
        x.give(0, 1, false);
        x.pass(2);
        check.fits(x, "why(0)", r -> r.why(0));
        x.collect();
        check.badIndex(x, "why(0) after collect()", r -> r.why(0));
        check.changesNothing(TermsUndoTest.busy(), "why(1)", r -> r.why(1));
    }
}
