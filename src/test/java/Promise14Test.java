/** Promise 14: hoursTo. */
public final class Promise14Test {
    public static void main(String[] args) {
        Check check = new Check("Promise14Test");
        PostRoad x = Check.road("2;3;");
        x.addTeam(0, 0);
        x.give(0, 2, false);
        x.give(0, 1, true);
        x.give(2, 0, true);
        long before = x.digest();
        check.due("hoursTo(1)", x.hoursTo(1), 3);
        int[] hours = {x.hoursTo(0), x.hoursTo(1), x.hoursTo(2)};
        check.due("digest() after the questions", x.digest(), before);
        x.setStage(1, 3, 0, true);
        check.due("hoursTo(0) over a blocked stage", x.hoursTo(0), -1);
        check.due("hoursTo(1) ahead of it", x.hoursTo(1), 3);
        x.undo();
        for (int passed = 0; passed <= 30; passed++) {
            for (int letter = 0; letter < 3; letter++) {
                boolean there = passed >= hours[letter];
                check.due("letter(" + letter + ", 6) after " + passed, x.letter(letter, 6), there ? hours[letter] : -1);
                check.due("hoursTo(" + letter + ") after " + passed, x.hoursTo(letter), there ? 0 : hours[letter] - passed);
            }
            x.pass(1);
        }
        check.due("value(4)", x.value(4), 3);
        check.badIndex(x, "hoursTo(-1)", () -> x.hoursTo(-1));
        check.badIndex(x, "hoursTo(3)", () -> x.hoursTo(3));
        atFiveHundred(check);
        behindTheLastHour(check);
        check.end();
    }

    private static void atFiveHundred(Check check) {
        PostRoad x = slowRoad();
        x.pass(17);
        check.due("hoursTo of the letter that takes 501", x.hoursTo(0), -1);
        x.pass(1);
        check.due("hoursTo of the letter that takes 500", x.hoursTo(0), 500);
        x.pass(200);
        x.pass(200);
        check.due("hoursTo of the letter that takes 100", x.hoursTo(0), 100);
        check.due("pass(99)", x.pass(99), 0);
        check.due("pass(1)", x.pass(1), 1);
    }

    /** Each stage takes 65 hours of rest without fodder, from 100 to 35, and 9 on the road: 7 times 74 are 518. */
    static PostRoad slowRoad() {
        PostRoad x = Check.road("9+5;9+5;9+5;9+5;9+5;9+5;9+5;");
        for (int i = 0; i < 8; i++) {
            x.setInn(i, 2, 0, false);
        }
        x.addTeam(0, 100);
        x.give(0, 7, false);
        return x;
    }

    /** What would be is not bound by the last hour that pass() may reach. */
    private static void behindTheLastHour(Check check) {
        PostRoad x = new PostRoad();
        for (int i = 0; i < 50; i++) {
            x.pass(200);
        }
        x.addTeam(0, 0);
        x.give(0, 1, false);
        check.due("hoursTo(0) at the hour 10000", x.hoursTo(0), 3);
        check.due("hoursToAll() at the hour 10000", x.hoursToAll(), 3);
        check.due("bestInn() at the hour 10000", x.bestInn(), 0);
    }
}
