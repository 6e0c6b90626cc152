/**
 * A post road with inns, stables and teams of horses. ../shared/DOC.md says what each call promises.
 *
 * All rows are made in the constructors and used again: no call makes an object, but for the exception that it throws.
 */
public final class PostRoad {
    public static final int NONE = -1;

    private static final int MOST_INNS = 8;
    private static final int MOST_STAGES = MOST_INNS - 1;
    private static final int MOST_TEAMS = 10;
    private static final int MOST_LETTERS = 12;
    private static final int MOST_BYTES = 90;
    private static final int MOST_SAVED = 4;
    private static final int MOST_TIRED = 100;
    private static final int LAST_HOUR = 10000;
    private static final int WHAT_IF_HOURS = 500;

    private static final int LAST_ABOUT_STAGE = 5;
    private static final int LAST_ABOUT_INN = 6;
    private static final int LAST_ABOUT_TEAM = 9;
    private static final int LAST_ABOUT_LETTER = 7;
    private static final int LAST_NUMBER = 10;

    private static final int CAN_GO_ON = 0;
    private static final int IS_DELIVERED = 1;
    private static final int IS_ON_STAGE = 2;
    private static final int STAGE_BLOCKED = 3;
    private static final int INN_SHUT = 4;
    private static final int NO_FREE_BED = 5;
    private static final int NO_TEAM = 6;
    private static final int TEAMS_TOO_TIRED = 7;

    private final Road road;
    /** What-if questions and parse() work on this one, so that the road itself stays as it is. */
    private final Road trial;
    private final History history;
    private final RoadText text;

    public PostRoad() {
        road = new Road();
        trial = new Road();
        history = new History();
        text = new RoadText();
    }

    // ---- road

    public int setStage(int stage, int hours, int hill, boolean blocked)
            throws IndexOutOfBoundsException, IllegalArgumentException {
        checkNumber(stage, road.inns - 1);
        checkRange(hours, 1, 9);
        checkRange(hill, -5, 5);
        history.save(road);
        Stage changed = road.stageRow(stage);
        int before = changed.hours;
        changed.set(hours, hill, blocked);
        return before;
    }

    public int setInn(int inn, int beds, int fodder, boolean shut)
            throws IndexOutOfBoundsException, IllegalArgumentException {
        checkNumber(inn, road.inns);
        checkRange(beds, 0, 6);
        checkRange(fodder, 0, 999);
        history.save(road);
        Inn changed = road.innRow(inn);
        int before = changed.fodder;
        changed.set(beds, fodder, shut);
        return before;
    }

    public int addTeam(int home, int tiredness)
            throws IndexOutOfBoundsException, IllegalArgumentException, IllegalStateException {
        checkNumber(home, road.inns);
        checkRange(tiredness, 0, MOST_TIRED);
        checkRoom(road.teams, MOST_TEAMS);
        history.save(road);
        return road.placeTeam(home, tiredness);
    }

    public int give(int from, int to, boolean express)
            throws IndexOutOfBoundsException, IllegalArgumentException, IllegalStateException {
        checkNumber(from, road.inns);
        checkNumber(to, road.inns);
        if (from == to) {
            throw new IllegalArgumentException("a letter goes to another inn");
        }
        checkRoom(road.letters, MOST_LETTERS);
        history.save(road);
        return road.placeLetter(from, to, express);
    }

    public int collect() {
        history.save(road);
        return road.takeDelivered();
    }

    public int pass(int hours) throws IllegalArgumentException, IllegalStateException {
        checkRange(hours, 1, 200);
        if (road.hour + hours > LAST_HOUR) {
            throw new IllegalStateException("the hour would be too late");
        }
        history.save(road);
        int before = road.delivered;
        for (int i = 0; i < hours; i++) {
            road.passHour();
        }
        return road.delivered - before;
    }

    public int stage(int stage, int what) throws IndexOutOfBoundsException, IllegalArgumentException {
        checkNumber(stage, road.inns - 1);
        checkRange(what, 0, LAST_ABOUT_STAGE);
        return road.aboutStage(stage, what);
    }

    public int inn(int inn, int what) throws IndexOutOfBoundsException, IllegalArgumentException {
        checkNumber(inn, road.inns);
        checkRange(what, 0, LAST_ABOUT_INN);
        return road.aboutInn(inn, what);
    }

    public int team(int team, int what) throws IndexOutOfBoundsException, IllegalArgumentException {
        checkNumber(team, road.teams);
        checkRange(what, 0, LAST_ABOUT_TEAM);
        return road.teamRow(team).about(what);
    }

    public int letter(int letter, int what) throws IndexOutOfBoundsException, IllegalArgumentException {
        checkNumber(letter, road.letters);
        checkRange(what, 0, LAST_ABOUT_LETTER);
        return road.letterRow(letter).about(what);
    }

    public int value(int what) throws IllegalArgumentException {
        checkRange(what, 0, LAST_NUMBER);
        return road.number(what);
    }

    public int why(int letter) throws IndexOutOfBoundsException {
        checkNumber(letter, road.letters);
        return road.hindrance(letter);
    }

    // ---- what if

    public int hoursTo(int letter) throws IndexOutOfBoundsException {
        checkNumber(letter, road.letters);
        trial.copyFrom(road);
        return trial.hoursUntilDelivered(letter);
    }

    public int hoursToAll() {
        trial.copyFrom(road);
        return trial.hoursUntilDelivered(NONE);
    }

    public int bestInn() {
        if (road.teams >= MOST_TEAMS) {
            return NONE;
        }
        int best = NONE;
        int bestHours = WHAT_IF_HOURS + 1;
        for (int i = 0; i < road.inns; i++) {
            trial.copyFrom(road);
            trial.placeTeam(i, 0);
            int hours = trial.hoursUntilDelivered(NONE);
            if (hours != NONE && hours < bestHours) {
                best = i;
                bestHours = hours;
            }
        }
        return best;
    }

    public int way(int from, int to) throws IndexOutOfBoundsException {
        checkNumber(from, road.inns);
        checkNumber(to, road.inns);
        return road.hoursBetween(Math.min(from, to), Math.max(from, to));
    }

    public int effortHome(int team) throws IndexOutOfBoundsException {
        checkNumber(team, road.teams);
        Team runner = road.teamRow(team);
        return road.effortBetween(runner.inn, runner.home);
    }

    public double meanTiredness() {
        if (road.teams == 0) {
            return 0.0;
        }
        int sum = 0;
        for (int i = 0; i < road.teams; i++) {
            sum += road.teamRow(i).tiredness;
        }
        return (double) sum / (double) road.teams;
    }

    // ---- text

    public int append(int value) throws IllegalArgumentException, IllegalStateException {
        checkRange(value, 0, 127);
        if (!text.add((byte) value)) {
            throw new IllegalStateException("the text is full");
        }
        return text.length;
    }

    public int clearText() {
        int before = text.length;
        text.length = 0;
        return before;
    }

    public int parse() {
        trial.restart();
        int error = text.readInto(trial);
        if (error != NONE) {
            return -10 - error;
        }
        history.save(road);
        road.copyFrom(trial);
        return road.inns;
    }

    // ---- state

    public int undo() throws IllegalStateException {
        if (history.count == 0) {
            throw new IllegalStateException("there is no saved state");
        }
        history.restore(road);
        return history.count;
    }

    public long digest() {
        long h = 3491L;
        h = 31L * h + text.length;
        for (int what = 0; what <= LAST_NUMBER; what++) {
            h = 31L * h + road.number(what);
        }
        h = digestOfRoad(h);
        h = digestOfTeams(h);
        h = digestOfLetters(h);
        trial.copyFrom(road);
        h = 31L * h + trial.hoursUntilDelivered(NONE);
        return 31L * h + history.count;
    }

    private long digestOfRoad(long start) {
        long h = start;
        for (int i = 0; i < road.inns - 1; i++) {
            for (int what = 0; what <= LAST_ABOUT_STAGE; what++) {
                h = 31L * h + road.aboutStage(i, what);
            }
        }
        for (int i = 0; i < road.inns; i++) {
            for (int what = 0; what <= LAST_ABOUT_INN; what++) {
                h = 31L * h + road.aboutInn(i, what);
            }
        }
        return h;
    }

    private long digestOfTeams(long start) {
        long h = start;
        for (int i = 0; i < road.teams; i++) {
            for (int what = 0; what <= LAST_ABOUT_TEAM; what++) {
                h = 31L * h + road.teamRow(i).about(what);
            }
        }
        return h;
    }

    private long digestOfLetters(long start) {
        long h = start;
        for (int i = 0; i < road.letters; i++) {
            for (int what = 0; what <= LAST_ABOUT_LETTER; what++) {
                h = 31L * h + road.letterRow(i).about(what);
            }
            h = 31L * h + road.hindrance(i);
        }
        return h;
    }

    private static void checkNumber(int number, int count) {
        if (number < 0 || number >= count) {
            throw new IndexOutOfBoundsException("there is no such number");
        }
    }

    private static void checkRange(int given, int least, int most) {
        if (given < least || given > most) {
            throw new IllegalArgumentException("a value is out of range");
        }
    }

    private static void checkRoom(int count, int most) {
        if (count >= most) {
            throw new IllegalStateException("there is no room for one more");
        }
    }

    private static int oneIf(boolean holds) {
        return holds ? 1 : 0;
    }

    private static int nextInn(int inn, int goal) {
        return goal > inn ? inn + 1 : inn - 1;
    }

    private static int stageBetween(int inn, int neighbour) {
        return inn < neighbour ? inn : neighbour;
    }

    /** The stage between an inn and the one behind it: "away" is the direction away from inn 0. */
    private static final class Stage {
        int hours;
        int hill;
        boolean blocked;

        void set(int newHours, int newHill, boolean newBlocked) {
            hours = newHours;
            hill = newHill;
            blocked = newBlocked;
        }

        void copyFrom(Stage other) {
            set(other.hours, other.hill, other.blocked);
        }

        int effort(boolean away) {
            int climb = away ? 4 * hill : -4 * hill;
            return Math.max(5, 5 * hours + climb);
        }
    }

    private static final class Inn {
        int beds;
        int fodder;
        boolean shut;

        void set(int newBeds, int newFodder, boolean newShut) {
            beds = newBeds;
            fodder = newFodder;
            shut = newShut;
        }

        void copyFrom(Inn other) {
            set(other.beds, other.fodder, other.shut);
        }
    }

    private static final class Team {
        int home;
        int tiredness;
        /** Where it stands, or to which it is on a stage. */
        int inn;
        /** NONE while it stands at an inn. */
        int stage;
        boolean away;
        int hoursLeft;
        int letter;
        boolean walksBack;
        int stagesRun;
        int effortsRun;
        int stagesWalked;
        int fodderEaten;

        void begin(int newHome, int newTiredness) {
            home = newHome;
            tiredness = newTiredness;
            stand(newHome);
            away = false;
            stagesRun = 0;
            effortsRun = 0;
            stagesWalked = 0;
            fodderEaten = 0;
        }

        void copyFrom(Team other) {
            home = other.home;
            tiredness = other.tiredness;
            inn = other.inn;
            stage = other.stage;
            away = other.away;
            hoursLeft = other.hoursLeft;
            letter = other.letter;
            walksBack = other.walksBack;
            stagesRun = other.stagesRun;
            effortsRun = other.effortsRun;
            stagesWalked = other.stagesWalked;
            fodderEaten = other.fodderEaten;
        }

        boolean stands() {
            return stage == NONE;
        }

        boolean standsAt(int place) {
            return stage == NONE && inn == place;
        }

        void stand(int place) {
            inn = place;
            stage = NONE;
            hoursLeft = 0;
            letter = NONE;
            walksBack = false;
        }

        /** Goes from its inn on the stage to one of the two inns beside it. */
        void setOut(int next, int hours) {
            away = next > inn;
            stage = stageBetween(inn, next);
            inn = next;
            hoursLeft = hours;
        }

        void rest(int relief) {
            tiredness = Math.max(0, tiredness - relief);
        }

        void tire(int effort) {
            tiredness = Math.min(MOST_TIRED, tiredness + effort);
            stagesRun++;
            effortsRun += effort;
        }

        int about(int what) {
            switch (what) {
                case 0: return home;
                case 1: return tiredness;
                case 2: return inn;
                case 3: return hoursLeft;
                case 4: return letter;
                case 5: return oneIf(walksBack);
                case 6: return stagesRun;
                case 7: return effortsRun;
                case 8: return stagesWalked;
                default: return fodderEaten;
            }
        }
    }

    private static final class Letter {
        int from;
        int to;
        boolean express;
        int givenAt;
        /** Where it lies, to which it is on a stage, or to which it was delivered. */
        int inn;
        int team;
        int deliveredAt;
        int starts;

        void begin(int newFrom, int newTo, boolean newExpress, int hour) {
            from = newFrom;
            to = newTo;
            express = newExpress;
            givenAt = hour;
            inn = newFrom;
            team = NONE;
            deliveredAt = NONE;
            starts = 0;
        }

        void copyFrom(Letter other) {
            from = other.from;
            to = other.to;
            express = other.express;
            givenAt = other.givenAt;
            inn = other.inn;
            team = other.team;
            deliveredAt = other.deliveredAt;
            starts = other.starts;
        }

        boolean isDelivered() {
            return deliveredAt != NONE;
        }

        boolean isOnStage() {
            return team != NONE;
        }

        boolean liesAtAnInn() {
            return !isDelivered() && !isOnStage();
        }

        int about(int what) {
            switch (what) {
                case 0: return from;
                case 1: return to;
                case 2: return oneIf(express);
                case 3: return givenAt;
                case 4: return inn;
                case 5: return team;
                case 6: return deliveredAt;
                default: return starts;
            }
        }
    }

    /** All that undo() brings back, and what an hour does to it. */
    private static final class Road {
        final Stage[] stageRows = new Stage[MOST_STAGES];
        final Inn[] innRows = new Inn[MOST_INNS];
        final Team[] teamRows = new Team[MOST_TEAMS];
        final Letter[] letterRows = new Letter[MOST_LETTERS];
        int inns;
        int teams;
        int letters;
        int hour;
        int delivered;
        int deliveredHours;
        int expressDelivered;
        int expressHours;
        int fodderEaten;

        Road() {
            for (int i = 0; i < MOST_STAGES; i++) {
                stageRows[i] = new Stage();
            }
            for (int i = 0; i < MOST_INNS; i++) {
                innRows[i] = new Inn();
            }
            for (int i = 0; i < MOST_TEAMS; i++) {
                teamRows[i] = new Team();
            }
            for (int i = 0; i < MOST_LETTERS; i++) {
                letterRows[i] = new Letter();
            }
            restart();
        }

        void restart() {
            for (int i = 0; i < MOST_STAGES; i++) {
                stageRows[i].set(2, 0, false);
            }
            for (int i = 0; i < MOST_INNS; i++) {
                innRows[i].set(2, 100, false);
            }
            inns = 2;
            teams = 0;
            letters = 0;
            hour = 0;
            delivered = 0;
            deliveredHours = 0;
            expressDelivered = 0;
            expressHours = 0;
            fodderEaten = 0;
        }

        void copyFrom(Road other) {
            inns = other.inns;
            teams = other.teams;
            letters = other.letters;
            hour = other.hour;
            delivered = other.delivered;
            deliveredHours = other.deliveredHours;
            expressDelivered = other.expressDelivered;
            expressHours = other.expressHours;
            fodderEaten = other.fodderEaten;
            for (int i = 0; i < MOST_STAGES; i++) {
                stageRows[i].copyFrom(other.stageRows[i]);
            }
            for (int i = 0; i < MOST_INNS; i++) {
                innRows[i].copyFrom(other.innRows[i]);
            }
            for (int i = 0; i < teams; i++) {
                teamRow(i).copyFrom(other.teamRow(i));
            }
            for (int i = 0; i < letters; i++) {
                letterRow(i).copyFrom(other.letterRow(i));
            }
        }

        // A number that is kept here is never outside its row; these four look at it before it is an index all the same.

        Stage stageRow(int number) {
            return stageRows[number >= 0 && number < MOST_STAGES ? number : 0];
        }

        Inn innRow(int number) {
            return innRows[number >= 0 && number < MOST_INNS ? number : 0];
        }

        Team teamRow(int number) {
            return teamRows[number >= 0 && number < MOST_TEAMS ? number : 0];
        }

        Letter letterRow(int number) {
            return letterRows[number >= 0 && number < MOST_LETTERS ? number : 0];
        }

        /** Only where there is room for one more team. */
        int placeTeam(int home, int tiredness) {
            teamRow(teams).begin(home, tiredness);
            teams++;
            return teams - 1;
        }

        /** Only where there is room for one more letter. */
        int placeLetter(int from, int to, boolean express) {
            letterRow(letters).begin(from, to, express, hour);
            letters++;
            return letters - 1;
        }

        int takeDelivered() {
            int kept = 0;
            for (int i = 0; i < letters; i++) {
                Letter moved = letterRow(i);
                if (!moved.isDelivered()) {
                    letterRow(kept).copyFrom(moved);
                    if (moved.isOnStage()) {
                        teamRow(moved.team).letter = kept;
                    }
                    kept++;
                }
            }
            int taken = letters - kept;
            letters = kept;
            return taken;
        }

        void passHour() {
            restTeams();
            moveTeams();
            // Later letters have higher numbers, so ascending numbers are ascending hours of giving, too.
            sendLetters(true);
            sendLetters(false);
            sendTeamsBack();
            hour++;
        }

        void restTeams() {
            for (int i = 0; i < teams; i++) {
                if (teamRow(i).stands()) {
                    restTeam(teamRow(i));
                }
            }
        }

        void restTeam(Team resting) {
            Inn stable = innRow(resting.inn);
            if (resting.tiredness > 0 && stable.fodder > 0) {
                stable.fodder--;
                resting.fodderEaten++;
                fodderEaten++;
                resting.rest(6);
            } else {
                resting.rest(1);
            }
        }

        void moveTeams() {
            for (int i = 0; i < teams; i++) {
                Team moving = teamRow(i);
                if (!moving.stands()) {
                    moving.hoursLeft--;
                    if (moving.hoursLeft == 0) {
                        arrive(moving);
                    }
                }
            }
        }

        void arrive(Team coming) {
            if (coming.walksBack) {
                coming.stagesWalked++;
            } else {
                coming.tire(stageRow(coming.stage).effort(coming.away));
            }
            if (coming.letter != NONE) {
                putDown(letterRow(coming.letter));
            }
            coming.stand(coming.inn);
        }

        void putDown(Letter brought) {
            brought.team = NONE;
            if (brought.inn == brought.to) {
                deliver(brought);
            }
        }

        void deliver(Letter brought) {
            brought.deliveredAt = hour + 1;
            int took = brought.deliveredAt - brought.givenAt;
            delivered++;
            deliveredHours += took;
            if (brought.express) {
                expressDelivered++;
                expressHours += took;
            }
        }

        void sendLetters(boolean express) {
            for (int i = 0; i < letters; i++) {
                if (letterRow(i).express == express && hindrance(i) == CAN_GO_ON) {
                    sendLetter(i);
                }
            }
        }

        /** Only for a letter that can go on: a team stands at its inn then. */
        void sendLetter(int number) {
            Letter sent = letterRow(number);
            int next = nextInn(sent.inn, sent.to);
            int runner = fittestTeamAt(sent.inn);
            Team running = teamRow(runner);
            running.setOut(next, stageRow(stageBetween(sent.inn, next)).hours);
            running.letter = number;
            sent.inn = next;
            sent.team = runner;
            sent.starts++;
        }

        /** Why a letter can't go on now, by the numbers of why(). */
        int hindrance(int number) {
            Letter asked = letterRow(number);
            if (asked.isDelivered()) {
                return IS_DELIVERED;
            }
            if (asked.isOnStage()) {
                return IS_ON_STAGE;
            }
            int next = nextInn(asked.inn, asked.to);
            Stage ahead = stageRow(stageBetween(asked.inn, next));
            if (ahead.blocked) {
                return STAGE_BLOCKED;
            }
            if (innRow(asked.inn).shut || innRow(next).shut) {
                return INN_SHUT;
            }
            if (bedsTaken(next) >= innRow(next).beds) {
                return NO_FREE_BED;
            }
            int runner = fittestTeamAt(asked.inn);
            if (runner == NONE) {
                return NO_TEAM;
            }
            boolean tooTired = teamRow(runner).tiredness + ahead.effort(next > asked.inn) > MOST_TIRED;
            return tooTired ? TEAMS_TOO_TIRED : CAN_GO_ON;
        }

        /** If any team there can run a stage, the least tired one can: only that one is looked for. */
        int fittestTeamAt(int place) {
            int fittest = NONE;
            int least = MOST_TIRED + 1;
            for (int i = 0; i < teams; i++) {
                if (teamRow(i).standsAt(place) && teamRow(i).tiredness < least) {
                    fittest = i;
                    least = teamRow(i).tiredness;
                }
            }
            return fittest;
        }

        void sendTeamsBack() {
            for (int i = 0; i < teams; i++) {
                Team idle = teamRow(i);
                if (idle.stands() && idle.inn != idle.home && idle.tiredness == 0 && lettersAt(idle.inn) == 0) {
                    sendBack(idle);
                }
            }
        }

        void sendBack(Team walking) {
            int next = nextInn(walking.inn, walking.home);
            Stage ahead = stageRow(stageBetween(walking.inn, next));
            if (!ahead.blocked && bedsTaken(next) < innRow(next).beds) {
                walking.setOut(next, 2 * ahead.hours);
                walking.walksBack = true;
            }
        }

        /** Hours until a letter, or for NONE every letter, is delivered; NONE if that takes too long. */
        int hoursUntilDelivered(int number) {
            int hours = 0;
            boolean still = false;
            while (hours < WHAT_IF_HOURS && !still && !hasCome(number)) {
                boolean idle = allTeamsIdle();
                passHour();
                hours++;
                // Nothing set out, rested or came in this hour, so the coming hours change nothing either.
                still = idle && allTeamsIdle();
            }
            return hasCome(number) ? hours : NONE;
        }

        boolean hasCome(int number) {
            if (number == NONE) {
                return lettersLying() + lettersOnStages() == 0;
            }
            return letterRow(number).isDelivered();
        }

        boolean allTeamsIdle() {
            for (int i = 0; i < teams; i++) {
                if (!teamRow(i).stands() || teamRow(i).tiredness > 0) {
                    return false;
                }
            }
            return true;
        }

        int hoursBetween(int low, int high) {
            int sum = 0;
            for (int i = low; i < high; i++) {
                sum += stageRow(i).hours;
            }
            return sum;
        }

        int effortBetween(int from, int to) {
            int high = Math.max(from, to);
            int sum = 0;
            for (int i = Math.min(from, to); i < high; i++) {
                sum += stageRow(i).effort(to > from);
            }
            return sum;
        }

        int teamsOn(int stage) {
            int count = 0;
            for (int i = 0; i < teams; i++) {
                if (teamRow(i).stage == stage) {
                    count++;
                }
            }
            return count;
        }

        int teamsAt(int place) {
            int count = 0;
            for (int i = 0; i < teams; i++) {
                if (teamRow(i).standsAt(place)) {
                    count++;
                }
            }
            return count;
        }

        /** The teams that stand there and those on stages to it. */
        int bedsTaken(int place) {
            int count = 0;
            for (int i = 0; i < teams; i++) {
                if (teamRow(i).inn == place) {
                    count++;
                }
            }
            return count;
        }

        int freeBeds(int place) {
            return Math.max(0, innRow(place).beds - bedsTaken(place));
        }

        int lettersAt(int place) {
            int count = 0;
            for (int i = 0; i < letters; i++) {
                if (letterRow(i).liesAtAnInn() && letterRow(i).inn == place) {
                    count++;
                }
            }
            return count;
        }

        int lettersLying() {
            int count = 0;
            for (int i = 0; i < letters; i++) {
                if (letterRow(i).liesAtAnInn()) {
                    count++;
                }
            }
            return count;
        }

        int lettersOnStages() {
            int count = 0;
            for (int i = 0; i < letters; i++) {
                if (letterRow(i).isOnStage()) {
                    count++;
                }
            }
            return count;
        }

        int aboutStage(int number, int what) {
            Stage asked = stageRow(number);
            switch (what) {
                case 0: return asked.hours;
                case 1: return asked.hill;
                case 2: return oneIf(asked.blocked);
                case 3: return asked.effort(true);
                case 4: return asked.effort(false);
                default: return teamsOn(number);
            }
        }

        int aboutInn(int number, int what) {
            Inn asked = innRow(number);
            switch (what) {
                case 0: return asked.beds;
                case 1: return asked.fodder;
                case 2: return oneIf(asked.shut);
                case 3: return teamsAt(number);
                case 4: return bedsTaken(number) - teamsAt(number);
                case 5: return lettersAt(number);
                default: return freeBeds(number);
            }
        }

        int number(int what) {
            switch (what) {
                case 0: return inns;
                case 1: return teams;
                case 2: return letters;
                case 3: return hour;
                case 4: return delivered;
                case 5: return deliveredHours;
                case 6: return expressDelivered;
                case 7: return expressHours;
                case 8: return fodderEaten;
                case 9: return lettersLying();
                default: return lettersOnStages();
            }
        }
    }

    /** The states for undo(), the oldest first. */
    private static final class History {
        final Road[] states = new Road[MOST_SAVED];
        int count;

        History() {
            for (int i = 0; i < MOST_SAVED; i++) {
                states[i] = new Road();
            }
        }

        /** Looks at the number before it is an index, as a road does for its rows. */
        Road state(int number) {
            return states[number >= 0 && number < MOST_SAVED ? number : 0];
        }

        void save(Road road) {
            if (count == MOST_SAVED) {
                dropOldest();
            }
            state(count).copyFrom(road);
            count++;
        }

        /** Only when it is full: the row of the oldest state becomes the one for the next. */
        void dropOldest() {
            Road oldest = states[0];
            for (int i = 1; i < MOST_SAVED; i++) {
                states[i - 1] = states[i];
            }
            states[MOST_SAVED - 1] = oldest;
            count = MOST_SAVED - 1;
        }

        /** Only when there is a saved state. */
        void restore(Road road) {
            count--;
            road.copyFrom(state(count));
        }
    }

    /** The text, and the reader that makes stages of it. */
    private static final class RoadText {
        final byte[] bytes = new byte[MOST_BYTES];
        int length;
        /** Where the reader is. */
        int at;

        /** False if there is no room for one more byte. */
        boolean add(byte next) {
            if (length >= MOST_BYTES) {
                return false;
            }
            bytes[length] = next;
            length++;
            return true;
        }

        /** Sets the stages and the inns of a fresh road. Returns NONE, or the syntax error position. */
        int readInto(Road fresh) {
            at = 0;
            for (int i = 0; i < MOST_STAGES; i++) {
                if (!readStage(fresh.stageRow(i))) {
                    return at;
                }
                if (at == length) {
                    fresh.inns = i + 2;
                    return NONE;
                }
            }
            return at;
        }

        boolean readStage(Stage read) {
            if (!digitStands(9)) {
                return false;
            }
            int hours = takeDigit();
            int hill = 0;
            if (signStands('+') || signStands('-')) {
                int side = signStands('+') ? 1 : -1;
                at++;
                if (!digitStands(5)) {
                    return false;
                }
                hill = side * takeDigit();
            }
            if (!signStands(';')) {
                return false;
            }
            at++;
            read.set(hours, hill, false);
            return true;
        }

        /** The byte where the reader is, or NONE at the end of the text. */
        int here() {
            return at < length ? bytes[at] : NONE;
        }

        boolean signStands(char sign) {
            return here() == sign;
        }

        boolean digitStands(int most) {
            return here() >= '1' && here() <= '0' + most;
        }

        /** Only where a digit stands. */
        int takeDigit() {
            int digit = here() - '0';
            at++;
            return digit;
        }
    }
}
