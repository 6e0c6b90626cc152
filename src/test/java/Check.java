import java.util.function.IntSupplier;

/** Counts the answers that are not due, for one test's main method. */
final class Check {
    private final String test;
    private int calls;
    private int wrong;

    Check(String test) {
        this.test = test;
    }

    void due(String call, long got, long want) {
        calls++;
        if (got != want) {
            tell(call + " answered " + got + ", due is " + want);
        }
    }

    void due(String call, double got, double want) {
        calls++;
        if (Double.compare(got, want) != 0) {
            tell(call + " answered " + got + ", due is " + want);
        }
    }

    void holds(String what, boolean held) {
        calls++;
        if (!held) {
            tell(what);
        }
    }

    /** The call throws just this class (a class below it would be the machine's own) and changes nothing. */
    void refused(PostRoad road, String call, Class<? extends RuntimeException> want, IntSupplier run) {
        calls++;
        long before = road.digest();
        Class<?> got = thrownBy(run);
        if (got != want) {
            tell(call + " threw " + got + ", due is " + want);
        }
        if (road.digest() != before) {
            tell(call + " threw and changed something");
        }
    }

    void badIndex(PostRoad road, String call, IntSupplier run) {
        refused(road, call, IndexOutOfBoundsException.class, run);
    }

    void badArgument(PostRoad road, String call, IntSupplier run) {
        refused(road, call, IllegalArgumentException.class, run);
    }

    void badState(PostRoad road, String call, IntSupplier run) {
        refused(road, call, IllegalStateException.class, run);
    }

    /** The call is undoable: undo() brings the state from before it back. */
    void undoable(PostRoad road, String call, IntSupplier run) {
        long before = Digests.withoutSavedStates(road, 0);
        run.getAsInt();
        Class<?> thrown = thrownBy(road::undo);
        holds(call + ", then undo() threw " + thrown, thrown == null);
        due(call + ", then undo(), then all answers", Digests.withoutSavedStates(road, 0), before);
    }

    void end() {
        System.out.println(test + ": " + calls + " looked at, " + wrong + " wrong");
        if (wrong != 0 || calls == 0) {
            System.exit(1);
        }
    }

    /** A road of the text. */
    static PostRoad road(String text) {
        PostRoad road = new PostRoad();
        type(road, text);
        road.parse();
        return road;
    }

    static void type(PostRoad road, String text) {
        road.clearText();
        for (int i = 0; i < text.length(); i++) {
            road.append(text.charAt(i));
        }
    }

    private static Class<?> thrownBy(IntSupplier run) {
        try {
            run.getAsInt();
            return null;
        } catch (RuntimeException e) {
            return e.getClass();
        }
    }

    private void tell(String fault) {
        wrong++;
        System.out.println(test + ": " + fault);
    }
}
