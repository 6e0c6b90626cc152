import java.util.ArrayDeque;
import java.util.ArrayList;
import java.util.Comparator;
import java.util.Deque;
import java.util.List;
import java.util.regex.Matcher;
import java.util.regex.Pattern;
import java.util.stream.Collectors;
import java.util.stream.IntStream;

/** A second telling of the document, slow and with other means than PostRoad, to compare random runs with. */
public final class Model {
    private static final class T {
        int home, tired, at, from, left, runs, efforts, walks, ate;
        boolean road, walking;
        L has;

        T copy() {
            T t = new T();
            t.home = home; t.tired = tired; t.at = at; t.from = from; t.left = left; t.runs = runs;
            t.efforts = efforts; t.walks = walks; t.ate = ate; t.road = road; t.walking = walking; t.has = has;
            return t;
        }
    }

    private static final class L {
        int from, to, given, at, done = -1, starts;
        boolean express;
        T by;

        L copy() {
            L l = new L();
            l.from = from; l.to = to; l.given = given; l.at = at; l.done = done; l.starts = starts;
            l.express = express; l.by = by;
            return l;
        }

        boolean lies() {
            return done < 0 && by == null;
        }
    }

    private static final class State {
        int[][] stages;
        int[][] inns;
        List<T> teams = new ArrayList<>();
        List<L> letters = new ArrayList<>();
        int hour;
        int[] counts = new int[5];

        State(int[][] stages) {
            this.stages = stages;
            inns = IntStream.rangeClosed(0, stages.length).mapToObj(i -> new int[] {2, 100, 0}).toArray(int[][]::new);
        }

        State copy() {
            State s = new State(copyOf(stages));
            s.inns = copyOf(inns);
            s.hour = hour;
            s.counts = counts.clone();
            teams.forEach(t -> s.teams.add(t.copy()));
            letters.forEach(l -> s.letters.add(l.copy()));
            for (T t : s.teams) {
                t.has = t.has == null ? null : s.letters.get(letters.indexOf(t.has));
            }
            for (L l : s.letters) {
                l.by = l.by == null ? null : s.teams.get(teams.indexOf(l.by));
            }
            return s;
        }

        private static int[][] copyOf(int[][] rows) {
            return IntStream.range(0, rows.length).mapToObj(i -> rows[i].clone()).toArray(int[][]::new);
        }

        int[] between(int a, int b) {
            return stages[Math.min(a, b)];
        }

        int effort(int a, int b) {
            int[] s = between(a, b);
            int e = b > a ? 5 * s[0] + 4 * s[1] : 5 * s[0] - 4 * s[1];
            return e < 5 ? 5 : e;
        }

        List<T> standing(int inn) {
            return teams.stream().filter(t -> !t.road && t.at == inn).collect(Collectors.toList());
        }

        List<T> coming(int inn) {
            return teams.stream().filter(t -> t.road && t.at == inn).collect(Collectors.toList());
        }

        List<L> lying(int inn) {
            return letters.stream().filter(l -> l.lies() && l.at == inn).collect(Collectors.toList());
        }

        int free(int inn) {
            return Math.max(0, inns[inn][0] - standing(inn).size() - coming(inn).size());
        }

        int ahead(int at, int goal) {
            return at + Integer.signum(goal - at);
        }

        int why(L l) {
            if (l.done >= 0) {
                return 1;
            }
            if (l.by != null) {
                return 2;
            }
            int next = ahead(l.at, l.to);
            boolean[] hindered = {
                between(l.at, next)[2] == 1,
                inns[l.at][2] == 1 || inns[next][2] == 1,
                free(next) < 1,
                standing(l.at).isEmpty(),
                standing(l.at).stream().noneMatch(t -> t.tired + effort(l.at, next) <= 100)};
            for (int i = 0; i < hindered.length; i++) {
                if (hindered[i]) {
                    return 3 + i;
                }
            }
            return 0;
        }

        void hour() {
            teams.stream().filter(t -> !t.road).forEach(this::rest);
            teams.stream().filter(t -> t.road).forEach(this::move);
            letters.stream().filter(L::lies)
                .sorted(Comparator.<L, Boolean>comparing(l -> !l.express).thenComparing(l -> l.given)
                    .thenComparing(letters::indexOf))
                .collect(Collectors.toList()).forEach(this::send);
            teams.forEach(this::walk);
            hour++;
        }

        void rest(T t) {
            boolean eats = t.tired > 0 && inns[t.at][1] > 0;
            if (eats) {
                inns[t.at][1]--;
                t.ate++;
                counts[4]++;
            }
            t.tired = Math.max(0, t.tired - (eats ? 6 : 1));
        }

        void move(T t) {
            if (--t.left > 0) {
                return;
            }
            t.road = false;
            if (t.walking) {
                t.walks++;
            } else {
                t.runs++;
                t.efforts += effort(t.from, t.at);
                t.tired = Math.min(100, t.tired + effort(t.from, t.at));
            }
            t.walking = false;
            L l = t.has;
            t.has = null;
            if (l != null) {
                l.by = null;
                if (l.at == l.to) {
                    l.done = hour + 1;
                    counts[0]++;
                    counts[1] += l.done - l.given;
                    counts[2] += l.express ? 1 : 0;
                    counts[3] += l.express ? l.done - l.given : 0;
                }
            }
        }

        void send(L l) {
            if (why(l) != 0) {
                return;
            }
            int next = ahead(l.at, l.to);
            T t = standing(l.at).stream().filter(c -> c.tired + effort(l.at, next) <= 100)
                .min(Comparator.comparing(c -> c.tired)).get();
            start(t, next, between(l.at, next)[0]);
            t.has = l;
            l.by = t;
            l.at = next;
            l.starts++;
        }

        void walk(T t) {
            if (t.road || t.at == t.home || t.tired > 0 || !lying(t.at).isEmpty()) {
                return;
            }
            int next = ahead(t.at, t.home);
            if (between(t.at, next)[2] == 0 && free(next) > 0) {
                start(t, next, 2 * between(t.at, next)[0]);
                t.walking = true;
            }
        }

        void start(T t, int next, int hours) {
            t.road = true;
            t.from = t.at;
            t.at = next;
            t.left = hours;
        }

        void add(int home, int tired) {
            T t = new T();
            t.home = home;
            t.at = home;
            t.tired = tired;
            teams.add(t);
        }

        int until(List<L> awaited) {
            for (int h = 0; h <= 500; h++) {
                if (awaited.stream().allMatch(l -> l.done >= 0)) {
                    return h;
                }
                hour();
            }
            return -1;
        }
    }

    private State now = new State(new int[][] {{2, 0, 0}});
    private final Deque<State> saved = new ArrayDeque<>();
    private String text = "";

    private static void index(int i, int n) {
        if (i < 0 || i >= n) {
            throw new IndexOutOfBoundsException();
        }
    }

    private static void argument(boolean fits) {
        if (!fits) {
            throw new IllegalArgumentException();
        }
    }

    private static void state(boolean fits) {
        if (!fits) {
            throw new IllegalStateException();
        }
    }

    private static boolean in(int v, int low, int high) {
        return low <= v && v <= high;
    }

    private void save() {
        saved.addLast(now.copy());
        if (saved.size() > 4) {
            saved.removeFirst();
        }
    }

    public int setStage(int stage, int hours, int hill, boolean blocked) {
        index(stage, now.stages.length);
        argument(in(hours, 1, 9) && in(hill, -5, 5));
        save();
        int old = now.stages[stage][0];
        now.stages[stage] = new int[] {hours, hill, blocked ? 1 : 0};
        return old;
    }

    public int setInn(int inn, int beds, int fodder, boolean shut) {
        index(inn, now.inns.length);
        argument(in(beds, 0, 6) && in(fodder, 0, 999));
        save();
        int old = now.inns[inn][1];
        now.inns[inn] = new int[] {beds, fodder, shut ? 1 : 0};
        return old;
    }

    public int addTeam(int home, int tiredness) {
        index(home, now.inns.length);
        argument(in(tiredness, 0, 100));
        state(now.teams.size() < 10);
        save();
        now.add(home, tiredness);
        return now.teams.size() - 1;
    }

    public int give(int from, int to, boolean express) {
        index(from, now.inns.length);
        index(to, now.inns.length);
        argument(from != to);
        state(now.letters.size() < 12);
        save();
        L l = new L();
        l.from = from;
        l.at = from;
        l.to = to;
        l.express = express;
        l.given = now.hour;
        now.letters.add(l);
        return now.letters.size() - 1;
    }

    public int collect() {
        save();
        int before = now.letters.size();
        now.letters.removeIf(l -> l.done >= 0);
        return before - now.letters.size();
    }

    public int pass(int hours) {
        argument(in(hours, 1, 200));
        state(now.hour <= 10000 - hours);
        save();
        int before = now.counts[0];
        IntStream.range(0, hours).forEach(i -> now.hour());
        return now.counts[0] - before;
    }

    public int stage(int stage, int what) {
        index(stage, now.stages.length);
        argument(in(what, 0, 5));
        int[] s = now.stages[stage];
        int on = (int) now.teams.stream().filter(t -> t.road && Math.min(t.from, t.at) == stage).count();
        return new int[] {s[0], s[1], s[2], now.effort(stage, stage + 1), now.effort(stage + 1, stage), on}[what];
    }

    public int inn(int inn, int what) {
        index(inn, now.inns.length);
        argument(in(what, 0, 6));
        int[] i = now.inns[inn];
        return new int[] {i[0], i[1], i[2], now.standing(inn).size(), now.coming(inn).size(), now.lying(inn).size(),
            now.free(inn)}[what];
    }

    public int team(int team, int what) {
        index(team, now.teams.size());
        argument(in(what, 0, 9));
        T t = now.teams.get(team);
        return new int[] {t.home, t.tired, t.at, t.road ? t.left : 0, now.letters.indexOf(t.has), t.walking ? 1 : 0,
            t.runs, t.efforts, t.walks, t.ate}[what];
    }

    public int letter(int letter, int what) {
        index(letter, now.letters.size());
        argument(in(what, 0, 7));
        L l = now.letters.get(letter);
        return new int[] {l.from, l.to, l.express ? 1 : 0, l.given, l.at, now.teams.indexOf(l.by), l.done,
            l.starts}[what];
    }

    public int value(int what) {
        argument(in(what, 0, 10));
        int lying = (int) now.letters.stream().filter(L::lies).count();
        int moving = (int) now.letters.stream().filter(l -> l.by != null).count();
        return new int[] {now.inns.length, now.teams.size(), now.letters.size(), now.hour, now.counts[0],
            now.counts[1], now.counts[2], now.counts[3], now.counts[4], lying, moving}[what];
    }

    public int why(int letter) {
        index(letter, now.letters.size());
        return now.why(now.letters.get(letter));
    }

    public int hoursTo(int letter) {
        index(letter, now.letters.size());
        State s = now.copy();
        return s.until(List.of(s.letters.get(letter)));
    }

    public int hoursToAll() {
        State s = now.copy();
        return s.until(s.letters);
    }

    public int bestInn() {
        if (now.teams.size() == 10) {
            return -1;
        }
        int[] hours = IntStream.range(0, now.inns.length).map(i -> {
            State s = now.copy();
            s.add(i, 0);
            return s.until(s.letters);
        }).toArray();
        return IntStream.range(0, hours.length).filter(i -> hours[i] >= 0).boxed()
            .min(Comparator.comparing(i -> hours[i])).orElse(-1);
    }

    public int way(int from, int to) {
        index(from, now.inns.length);
        index(to, now.inns.length);
        int sum = 0;
        for (int i = from; i != to; i = now.ahead(i, to)) {
            sum += now.between(i, now.ahead(i, to))[0];
        }
        return sum;
    }

    public int effortHome(int team) {
        index(team, now.teams.size());
        T t = now.teams.get(team);
        int sum = 0;
        for (int i = t.at; i != t.home; i = now.ahead(i, t.home)) {
            sum += now.effort(i, now.ahead(i, t.home));
        }
        return sum;
    }

    public double meanTiredness() {
        return now.teams.stream().mapToInt(t -> t.tired).average().orElse(0.0);
    }

    public int append(int value) {
        argument(in(value, 0, 127));
        state(text.length() < 90);
        text += (char) value;
        return text.length();
    }

    public int clearText() {
        int old = text.length();
        text = "";
        return old;
    }

    public int parse() {
        Pattern whole = Pattern.compile("([1-9]([+-][1-5])?;){1,7}", Pattern.DOTALL);
        if (!whole.matcher(text).matches()) {
            int good = 0;
            while (good < text.length() && canBegin(whole, text.substring(0, good + 1))) {
                good++;
            }
            return -10 - good;
        }
        save();
        String[] parts = text.split(";");
        int[][] stages = new int[parts.length][];
        for (int i = 0; i < parts.length; i++) {
            int hill = parts[i].length() == 1 ? 0 : Integer.parseInt(parts[i].substring(1));
            stages[i] = new int[] {parts[i].charAt(0) - '0', hill, 0};
        }
        now = new State(stages);
        return now.inns.length;
    }

    private static boolean canBegin(Pattern whole, String start) {
        Matcher m = whole.matcher(start);
        return m.matches() || m.hitEnd();
    }

    public int undo() {
        state(!saved.isEmpty());
        now = saved.removeLast();
        return saved.size();
    }

    public long digest() {
        List<Integer> v = new ArrayList<>();
        v.add(text.length());
        add(v, 11, this::value);
        for (int i = 0; i < now.stages.length; i++) {
            int k = i;
            add(v, 6, what -> stage(k, what));
        }
        for (int i = 0; i < now.inns.length; i++) {
            int k = i;
            add(v, 7, what -> inn(k, what));
        }
        for (int i = 0; i < now.teams.size(); i++) {
            int k = i;
            add(v, 10, what -> team(k, what));
        }
        for (int i = 0; i < now.letters.size(); i++) {
            int k = i;
            add(v, 8, what -> letter(k, what));
            v.add(why(k));
        }
        v.add(hoursToAll());
        v.add(saved.size());
        long h = 3491;
        for (int x : v) {
            h = 31 * h + x;
        }
        return h;
    }

    private static void add(List<Integer> v, int count, java.util.function.IntUnaryOperator about) {
        for (int what = 0; what < count; what++) {
            v.add(about.applyAsInt(what));
        }
    }
}
