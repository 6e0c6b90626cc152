/** Promise 16: bestInn. */
public final class Promise16Test {
    public static void main(String[] args) {
        Check check = new Check("Promise16Test");
        PostRoad x = Check.road("3;2;4;");
        check.due("bestInn() without letters", x.bestInn(), 0);
        x.give(2, 3, false);
        long before = x.digest();
        check.due("bestInn() where the only letter lies", x.bestInn(), 2);
        check.due("digest() after bestInn()", x.digest(), before);
        x.addTeam(1, 0);
        check.due("bestInn() with a team elsewhere", x.bestInn(), 2);
        x.addTeam(2, 0);
        check.due("bestInn() where all are as good", x.bestInn(), 0);
        x.setStage(2, 4, 0, true);
        check.due("bestInn() before a blocked stage", x.bestInn(), -1);
        lowestOfSeveral(check);
        theHomeMatters(check);
        theNewTeamTakesABed(check);
        noRoomForOneMore(check);
        atFiveHundred(check);
        theLastInnOfEight(check);
        scarceFodder(check);
        check.end();
    }

    /** A letter each at inns 3 and 1, of the same hours, and a team that must rest long at each. */
    private static void lowestOfSeveral(Check check) {
        PostRoad x = Check.road("2;2;2;");
        x.setInn(3, 2, 0, false);
        x.setInn(1, 2, 0, false);
        x.give(3, 2, false);
        x.addTeam(3, 100);
        check.due("bestInn()", x.bestInn(), 3);
        x.give(1, 0, false);
        x.addTeam(1, 100);
        check.due("bestInn() where each of two is as good as none", x.bestInn(), 0);
    }

    /** Its home is the inn where it is put: it walks back to it for the next letter. */
    private static void theHomeMatters(Check check) {
        PostRoad x = Check.road("1;1;");
        x.give(1, 2, false);
        x.give(1, 2, false);
        check.due("bestInn()", x.bestInn(), 1);
        x.give(0, 2, true);
        check.due("bestInn() with an express letter", x.bestInn(), byTrying(x));
        PostRoad y = Check.road("2+3;1;3-2;2;");
        for (int i = 0; i < 4; i++) {
            y.give((i + 2) % 5, i, i % 2 == 1);
            y.addTeam(4 - i, 90 - i);
            check.due("bestInn() with " + (i + 1) + " letters", y.bestInn(), byTrying(y));
        }
    }

    /** The same by addTeam(), hoursToAll() and undo(). */
    private static int byTrying(PostRoad x) {
        int best = PostRoad.NONE;
        int least = 501;
        for (int i = 0; i < x.value(0); i++) {
            x.addTeam(i, 0);
            int hours = x.hoursToAll();
            x.undo();
            if (hours != PostRoad.NONE && hours < least) {
                best = i;
                least = hours;
            }
        }
        return best;
    }

    /** With one bed at inn 1, a team put there keeps the letter from inn 0 away. */
    private static void theNewTeamTakesABed(Check check) {
        PostRoad x = new PostRoad();
        x.setInn(1, 1, 0, false);
        x.addTeam(0, 100);
        x.give(0, 1, false);
        check.due("bestInn()", x.bestInn(), 0);
        PostRoad y = new PostRoad();
        y.setInn(0, 1, 0, false);
        y.addTeam(1, 0);
        y.give(1, 0, false);
        check.due("bestInn() where inn 0 must stay free", y.bestInn(), 1);
    }

    /** Twelve letters over a steep stage, without fodder: the tiredness of the other team sets the hour of the last. */
    private static void atFiveHundred(Check check) {
        check.due("bestInn() of 500 hours", shuttle(72).bestInn(), 0);
        check.due("bestInn() of 501 hours", shuttle(73).bestInn(), -1);
        PostRoad x = shuttle(72);
        x.addTeam(0, 0);
        check.due("hoursToAll() with that team", x.hoursToAll(), 500);
    }

    private static PostRoad shuttle(int tiredness) {
        PostRoad x = Check.road("8+5;");
        x.setInn(0, 2, 0, false);
        x.setInn(1, 6, 0, false);
        x.addTeam(0, tiredness);
        for (int i = 0; i < 12; i++) {
            x.give(0, 1, false);
        }
        return x;
    }

    private static void theLastInnOfEight(Check check) {
        PostRoad x = Check.road("1;1;1;1;1;1;1;");
        x.give(7, 6, false);
        check.due("bestInn() of eight", x.bestInn(), 7);
    }

    /** The new team eats nothing before it has run: one of tiredness 1 would eat at inn 1, and inn 0 would be best. */
    private static void scarceFodder(Check check) {
        PostRoad x = Check.road("9;");
        x.setInn(0, 2, 0, false);
        x.setInn(1, 2, 2, false);
        x.addTeam(0, 65);
        for (int i = 0; i < 4; i++) {
            x.give(i < 2 ? 1 : 0, i < 2 ? 0 : 1, false);
        }
        check.due("bestInn() with scarce fodder", x.bestInn(), 1);
        check.due("bestInn() with scarce fodder, by trying", byTrying(x), 1);
    }

    private static void noRoomForOneMore(Check check) {
        PostRoad x = new PostRoad();
        for (int i = 0; i < 9; i++) {
            x.addTeam(0, 0);
        }
        check.due("bestInn() with nine teams", x.bestInn(), 0);
        x.addTeam(0, 0);
        check.due("bestInn() with ten teams and no letters", x.bestInn(), -1);
        x.give(0, 1, false);
        check.due("bestInn() with ten teams", x.bestInn(), -1);
    }
}
