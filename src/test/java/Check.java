import java.util.List;
import java.util.function.Consumer;
import java.util.function.Supplier;

/** The tests of one part of the document, one for each of its sentences; it counts the answers that are not due. */
final class Check {
    interface With {
        void run(Run x, int value);
    }

    private final String part;
    private String sentence = "";
    private int sentences;
    private int looked;
    private int wrong;

    Check(String part) {
        this.part = part;
    }

    /** Runs a test of the document's words; SentencesTest sees to it that each word has one. */
    void sentence(String words, Consumer<Check> test) {
        sentence = words;
        int before = looked;
        try {
            test.accept(this);
        } catch (RuntimeException | AssertionError e) {
            tell("the test ended with " + e);
        }
        holds("the test looked at something", looked > before);
        sentences++;
    }

    void due(String call, long got, long want) {
        looked++;
        if (got != want) {
            tell(call + " answered " + got + ", due is " + want);
        }
    }

    void due(String call, double got, double want) {
        looked++;
        if (Double.compare(got, want) != 0) {
            tell(call + " answered " + got + ", due is " + want);
        }
    }

    void holds(String what, boolean held) {
        looked++;
        if (!held) {
            tell("it does not hold that " + what);
        }
    }

    /** The values of stage(), inn(), team(), letter() or value(), by ascending what from 0 on. */
    void stage(Run x, int stage, int... want) {
        for (int what = 0; what < want.length; what++) {
            due("stage(" + stage + ", " + what + ")", x.stage(stage, what), want[what]);
        }
    }

    void inn(Run x, int inn, int... want) {
        for (int what = 0; what < want.length; what++) {
            due("inn(" + inn + ", " + what + ")", x.inn(inn, what), want[what]);
        }
    }

    void team(Run x, int team, int... want) {
        for (int what = 0; what < want.length; what++) {
            due("team(" + team + ", " + what + ")", x.team(team, what), want[what]);
        }
    }

    void letter(Run x, int letter, int... want) {
        for (int what = 0; what < want.length; what++) {
            due("letter(" + letter + ", " + what + ")", x.letter(letter, what), want[what]);
        }
    }

    void values(Run x, int... want) {
        for (int what = 0; what < want.length; what++) {
            due("value(" + what + ")", x.value(what), want[what]);
        }
    }

    /** The call throws just this class (a class below it would be the machine's own) and changes nothing. */
    private void refused(Run x, String call, Class<? extends RuntimeException> want, Consumer<Run> run) {
        looked++;
        Class<?> got = thrownBy(x, run);
        if (got != want) {
            tell(call + " threw " + got + ", due is " + want);
        }
        changesNothing(x, call, run);
    }

    void badIndex(Run x, String call, Consumer<Run> run) {
        refused(x, call, IndexOutOfBoundsException.class, run);
    }

    void badArgument(Run x, String call, Consumer<Run> run) {
        refused(x, call, IllegalArgumentException.class, run);
    }

    void badState(Run x, String call, Consumer<Run> run) {
        refused(x, call, IllegalStateException.class, run);
    }

    void fits(Run x, String call, Consumer<Run> run) {
        looked++;
        Class<?> got = thrownBy(x, run);
        if (got != null) {
            tell(call + " threw " + got);
        }
    }

    /** The numbers below count are taken; those beside them, and the farthest, are none. */
    void numbers(Supplier<Run> fresh, String call, int count, With run) {
        for (int i = 0; i < count; i++) {
            int number = i;
            fits(fresh.get(), call + " with " + i, x -> run.run(x, number));
        }
        for (int number : new int[] {-1, count, Integer.MIN_VALUE, Integer.MAX_VALUE}) {
            badIndex(fresh.get(), call + " with " + number, x -> run.run(x, number));
        }
    }

    /** The values from least to most are taken; those beside them, and the farthest, are out of range. */
    void range(Supplier<Run> fresh, String call, int least, int most, With run) {
        for (int i = least; i <= most; i++) {
            int value = i;
            fits(fresh.get(), call + " with " + i, x -> run.run(x, value));
        }
        for (int value : new int[] {least - 1, most + 1, Integer.MIN_VALUE, Integer.MAX_VALUE}) {
            badArgument(fresh.get(), call + " with " + value, x -> run.run(x, value));
        }
    }

    /** With the call and without it, all that follows is the same. */
    void changesNothing(Run x, String call, Consumer<Run> run) {
        List<Long> without = x.leadsTo(r -> { });
        holds(call + " changes nothing", x.leadsTo(run).equals(without));
        due("digest() after " + call, x.digest(), x.again().digest());
    }

    /** The call saves one state; undo() brings all back but for the oldest of four, also for the hours to come. */
    void undoable(Run x, String call, Consumer<Run> run) {
        Run with = x.again();
        fits(with, call, run);
        due("undo() after " + call, with.undo(), Math.min(3, x.saved()));
        Run without = x.again();
        for (int hours = 0; hours < 20; hours++) {
            due("state after undo() of " + call + " and " + hours + " hours", with.state(), without.state());
            if (x.value(3) + hours < 10000) {
                with.pass(1);
                without.pass(1);
            }
        }
    }

    void end() {
        System.out.println(part + ": " + sentences + " sentences, " + looked + " looked at, " + wrong + " wrong");
        if (wrong != 0 || looked == 0) {
            System.exit(1);
        }
    }

    private static Class<?> thrownBy(Run x, Consumer<Run> run) {
        try {
            run.accept(x);
            return null;
        } catch (RuntimeException e) {
            return e.getClass();
        }
    }

    private void tell(String fault) {
        wrong++;
        System.out.println(part + (sentence.isEmpty() ? "" : ", \"" + sentence + "\"") + ": " + fault);
    }
}
