import java.lang.reflect.InvocationTargetException;
import java.lang.reflect.Method;
import java.util.HashMap;
import java.util.Map;
import java.util.TreeMap;

/** Random runs of 512 calls at most, each call's answer or exception compared with the model's. */
public final class ModelTest {
    private static final int RUNS = 120;
    private static final int CALLS = 512;
    private static final Map<String, Method> OURS = methods(PostRoad.class);
    private static final Map<String, Method> MODELS = methods(Model.class);
    /** How often each answer's kind was met: a test of the test, printed at its end. */
    private static final Map<String, Integer> MET = new TreeMap<>();

    private long seed;
    private PostRoad road;
    private Model model;
    private int calls;
    private int wrong;
    private final StringBuilder told = new StringBuilder();

    private ModelTest(long seed) {
        this.seed = seed;
    }

    public static void main(String[] args) throws IllegalAccessException {
        int runs = args.length > 0 ? Integer.parseInt(args[0]) : RUNS;
        int wrong = 0;
        for (int i = 1; i <= runs && wrong < 5; i++) {
            wrong += new ModelTest(i * 7919L).run(i);
        }
        MET.forEach((what, times) -> System.out.println("  met " + what + ": " + times));
        System.out.println("ModelTest: " + runs + " runs, " + wrong + " wrong");
        if (wrong != 0) {
            System.exit(1);
        }
    }

    private static Map<String, Method> methods(Class<?> of) {
        Map<String, Method> found = new HashMap<>();
        for (Method m : of.getDeclaredMethods()) {
            if (java.lang.reflect.Modifier.isPublic(m.getModifiers())) {
                found.put(m.getName(), m);
            }
        }
        return found;
    }

    private int below(int bound) {
        seed = seed * 6364136223846793005L + 1442695040888963407L;
        return (int) ((seed >>> 33) % bound);
    }

    private boolean chance(int percent) {
        return below(100) < percent;
    }

    private int run(int number) throws IllegalAccessException {
        road = new PostRoad();
        model = new Model();
        if (chance(10)) {
            call("undo");
            lateHour();
        }
        if (chance(70)) {
            typeRoad();
            call("parse");
        }
        setUp();
        while (calls < CALLS - 12 && wrong == 0) {
            anyCall();
            if (chance(30)) {
                call("digest");
            }
        }
        call("digest");
        if (wrong != 0) {
            System.out.println("run " + number + ":\n" + told);
        }
        return wrong;
    }

    /** parse() would make it the hour 0 again: such a run has a road of two inns for a while. */
    private void lateHour() throws IllegalAccessException {
        for (int i = 0; i < 48; i++) {
            call("pass", 200);
        }
        setUp();
        for (int i = 0; i < 60; i++) {
            anyCall();
        }
    }

    private void setUp() throws IllegalAccessException {
        for (int i = below(9); i > 0; i--) {
            addTeam();
        }
        for (int i = below(10); i > 0; i--) {
            giveLetter();
        }
    }

    private void anyCall() throws IllegalAccessException {
        int kind = below(100);
        if (kind < 22) {
            call("pass", chance(3) ? odd() : chance(85) ? 1 + below(4) : chance(70) ? 1 + below(30) : 1 + below(200));
        } else if (kind < 34) {
            giveLetter();
        } else if (kind < 38) {
            addTeam();
        } else if (kind < 44) {
            call("setStage", number(0), chance(4) ? odd() : 1 + below(9), chance(4) ? odd() : below(11) - 5, chance(12));
        } else if (kind < 52) {
            call("setInn", number(1), chance(4) ? odd() : below(7), fodder(), chance(12));
        } else if (kind < 56) {
            call("collect");
        } else if (kind < 57 && chance(25)) {
            typeRoad();
            call("parse");
        } else if (kind < 60) {
            call("undo");
        } else {
            question();
        }
    }

    private void question() throws IllegalAccessException {
        switch (below(16)) {
            case 0: call("stage", number(0), what(6)); break;
            case 1: call("inn", number(1), what(7)); break;
            case 2: case 3: call("team", number(2), what(10)); break;
            case 4: case 5: call("letter", number(3), what(8)); break;
            case 6: call("value", what(11)); break;
            case 7: call("why", number(3)); break;
            case 8: call("hoursTo", number(3)); break;
            case 9: call("hoursToAll"); break;
            case 10: call("bestInn"); break;
            case 11: call("way", number(1), number(1)); break;
            case 12: call("effortHome", number(2)); break;
            case 13: call("meanTiredness"); break;
            case 14: text(); break;
            default: call("digest"); break;
        }
    }

    private void text() throws IllegalAccessException {
        if (chance(10)) {
            typeBroken();
            call("parse");
        } else if (chance(20)) {
            call("clearText");
        } else {
            call("append", chance(10) ? odd() : below(128));
        }
    }

    private void addTeam() throws IllegalAccessException {
        call("addTeam", number(1), chance(3) ? odd() : chance(40) ? 0 : 100 - below(101) * below(101) / 100);
    }

    private void giveLetter() throws IllegalAccessException {
        call("give", number(1), number(1), chance(35));
    }

    private int fodder() {
        return chance(4) ? odd() : chance(30) ? 0 : chance(50) ? below(10) : below(1000);
    }

    private int what(int count) {
        return chance(5) ? odd() : below(count);
    }

    /** A stage's, an inn's, a team's or a letter's number, sometimes just or far beside them. */
    private int number(int of) {
        int count = new int[] {model.value(0) - 1, model.value(0), model.value(1), model.value(2)}[of];
        return count == 0 || chance(4) ? odd() : below(count);
    }

    private int odd() {
        int[] odd = {-1, 0, 7, 10, 12, 101, 128, 201, 1000, -6, 6, Integer.MAX_VALUE, Integer.MIN_VALUE, 2, 8, 1};
        return odd[below(odd.length)];
    }

    private void typeRoad() throws IllegalAccessException {
        call("clearText");
        for (int i = 1 + below(7); i > 0; i--) {
            call("append", '1' + (chance(70) ? below(3) : below(9)));
            if (chance(50)) {
                call("append", (int) (chance(50) ? '+' : '-'));
                call("append", '1' + below(5));
            }
            call("append", (int) ';');
        }
    }

    private void typeBroken() throws IllegalAccessException {
        String signs = "123456789+-;05;;1";
        typeRoad();
        for (int i = below(3); i > 0; i--) {
            call("append", (int) signs.charAt(below(signs.length())));
        }
    }

    private void call(String name, Object... args) throws IllegalAccessException {
        if (calls >= CALLS || wrong > 0) {
            return;
        }
        calls++;
        String want = answer(MODELS.get(name), model, args);
        String got = answer(OURS.get(name), road, args);
        told.append("  ").append(name).append(java.util.Arrays.toString(args)).append(" -> ").append(got).append('\n');
        boolean tells = want.startsWith("throws") || name.equals("why") || name.equals("bestInn");
        MET.merge(name + (tells ? " " + want : ""), 1, Integer::sum);
        if (!got.equals(want)) {
            told.append("  due is ").append(want).append('\n');
            wrong++;
        }
    }

    private static String answer(Method m, Object on, Object[] args) throws IllegalAccessException {
        try {
            return String.valueOf(m.invoke(on, args));
        } catch (InvocationTargetException e) {
            return "throws " + e.getCause().getClass().getName();
        }
    }
}
