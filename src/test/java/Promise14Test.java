/** Promise 14: hoursTo. */
public final class Promise14Test {
    public static void main(String[] args) {
        Check check = new Check("Promise 14");
        check.sentence("Tells how many hours would pass until a letter would be delivered.", Promise14Test::asItComes);
        check.sentence("- letter: number of a letter", Promise14Test::eachLetter);
        check.sentence("Returns the hours", Promise14Test::hours);
        check.sentence("0 if it is delivered", Promise14Test::delivered);
        check.sentence("NONE if it would not be within 500 hours.", Promise14Test::within500);
        check.sentence("Throws IndexOutOfBoundsException if there is no such letter", Promise14Test::noSuchLetter);
        check.end();
    }

    private static Run threeLetters() {
        Run x = Run.road("2;3;");
        x.addTeam(0, 0);
        x.give(0, 2, false);
        x.give(0, 1, true);
        x.give(2, 0, true);
        return x;
    }

    /** As if the hours had passed, but they have not: each hour it is one less. */
    private static void asItComes(Check check) {
        Run x = threeLetters();
        int[] hours = {x.hoursTo(0), x.hoursTo(1), x.hoursTo(2)};
        for (int passed = 0; passed <= 30; passed++) {
            for (int i = 0; i < 3; i++) {
                boolean there = passed >= hours[i];
                check.due("letter(" + i + ", 6) after " + passed, x.letter(i, 6), there ? hours[i] : -1);
                check.due("hoursTo(" + i + ") after " + passed, x.hoursTo(i), there ? 0 : hours[i] - passed);
            }
            x.pass(1);
        }
        check.due("value(4)", x.value(4), 3);
        for (int letter = 0; letter < 3; letter++) {
            int asked = letter;
            check.changesNothing(threeLetters(), "hoursTo(" + letter + ")", r -> r.hoursTo(asked));
        }
        check.changesNothing(TermsUndoTest.busy(), "hoursTo(1)", r -> r.hoursTo(1));
        behindTheLastHour(check);
    }

    /** What would be is not bound by the last hour that pass() may reach. */
    private static void behindTheLastHour(Check check) {
        for (int hour = 9996; hour <= 10000; hour++) {
            Run x = new Run();
            x.passTo(hour);
            x.addTeam(0, 0);
            x.give(0, 1, false);
            check.due("hoursTo(0) at the hour " + hour, x.hoursTo(0), 3);
            check.due("hoursToAll() at the hour " + hour, x.hoursToAll(), 3);
            check.due("bestInn() at the hour " + hour, x.bestInn(), 0);
        }
    }

    /** Twelve letters, one team that takes all of them in the order of the letters. */
    private static void eachLetter(Check check) {
        Run x = Run.road("1;");
        x.addTeam(0, 0);
        for (int i = 0; i < 12; i++) {
            x.give(0, 1, false);
        }
        for (int i = 0; i < 12; i++) {
            check.due("hoursTo(" + i + ")", x.hoursTo(i), 2 + 4 * i);
        }
        check.due("hoursToAll()", x.hoursToAll(), 46);
    }

    private static void hours(Check check) {
        for (int hours = 1; hours <= 9; hours++) {
            Run x = Run.road(hours + ";");
            x.addTeam(0, 0);
            x.give(0, 1, false);
            check.due("hoursTo(0) ahead of " + hours, x.hoursTo(0), hours + 1);
            x.pass(hours);
            check.due("hoursTo(0) an hour ahead", x.hoursTo(0), 1);
            x.pass(1);
            check.due("hoursTo(0)", x.hoursTo(0), 0);
        }
        check.due("hoursTo(1) of an express letter", threeLetters().hoursTo(1), 3);
    }

    private static void delivered(Check check) {
        Run x = Run.road("1;");
        x.addTeam(0, 0);
        x.give(0, 1, false);
        x.give(0, 1, false);
        x.pass(2);
        check.due("hoursTo(0)", x.hoursTo(0), 0);
        check.holds("hoursTo(1) is not 0", x.hoursTo(1) != 0);
        x.setStage(0, 1, 0, true);
        check.due("hoursTo(0) behind a blocked stage", x.hoursTo(0), 0);
        check.due("hoursTo(1) ahead of it", x.hoursTo(1), -1);
    }

    /** Each stage takes 65 hours of rest without fodder, from 100 to 35, and 9 on the road: 7 times 74 are 518. */
    static Run slowRoad() {
        Run x = Run.road("9+5;9+5;9+5;9+5;9+5;9+5;9+5;");
        for (int i = 0; i < 8; i++) {
            x.setInn(i, 2, 0, false);
        }
        x.addTeam(0, 100);
        x.give(0, 7, false);
        return x;
    }

    private static void within500(Check check) {
        Run x = slowRoad();
        for (int passed = 0; passed <= 21; passed++) {
            check.due("hoursTo of " + (518 - passed), x.hoursTo(0), passed < 18 ? -1 : 518 - passed);
            x.pass(1);
        }
        x.pass(200);
        x.pass(200);
        check.due("hoursTo of 96", x.hoursTo(0), 96);
        check.due("pass(95)", x.pass(95), 0);
        check.due("pass(1)", x.pass(1), 1);
        Run never = new Run();
        never.give(0, 1, false);
        check.due("hoursTo(0) without a team", never.hoursTo(0), -1);
        never.addTeam(0, 0);
        check.due("hoursTo(0) with one", never.hoursTo(0), 3);
        never.setInn(1, 2, 0, true);
        check.due("hoursTo(0) toward a shut inn", never.hoursTo(0), -1);
        never.setInn(1, 0, 0, false);
        check.due("hoursTo(0) toward an inn without beds", never.hoursTo(0), -1);
        Run farther = threeLetters();
        farther.setStage(1, 3, 0, true);
        check.due("hoursTo(0) over a blocked stage", farther.hoursTo(0), -1);
        check.due("hoursTo(1) ahead of it", farther.hoursTo(1), 3);
    }

    private static void noSuchLetter(Check check) {
        check.numbers(Run::new, "hoursTo", 0, (x, i) -> x.hoursTo(i));
        check.numbers(Promise14Test::threeLetters, "hoursTo", 3, (x, i) -> x.hoursTo(i));
        Run x = Run.road("1;");
        x.addTeam(0, 0);
        x.give(0, 1, false);
        x.pass(2);
        x.collect();
        check.badIndex(x, "hoursTo(0) after collect()", r -> r.hoursTo(0));
    }
}
