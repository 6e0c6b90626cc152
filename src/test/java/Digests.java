/** The document's hash, made of the other public answers; no call tells the text's length or the saved states. */
final class Digests {
    private Digests() {
    }

    static long of(PostRoad road, int textLength, int saved) {
        return 31L * withoutSavedStates(road, textLength) + saved;
    }

    static long withoutSavedStates(PostRoad road, int textLength) {
        long h = 31L * 3491L + textLength;
        for (int what = 0; what <= 10; what++) {
            h = 31L * h + road.value(what);
        }
        int inns = road.value(0);
        for (int i = 0; i + 1 < inns; i++) {
            for (int what = 0; what <= 5; what++) {
                h = 31L * h + road.stage(i, what);
            }
        }
        for (int i = 0; i < inns; i++) {
            for (int what = 0; what <= 6; what++) {
                h = 31L * h + road.inn(i, what);
            }
        }
        for (int i = 0; i < road.value(1); i++) {
            for (int what = 0; what <= 9; what++) {
                h = 31L * h + road.team(i, what);
            }
        }
        for (int i = 0; i < road.value(2); i++) {
            for (int what = 0; what <= 7; what++) {
                h = 31L * h + road.letter(i, what);
            }
            h = 31L * h + road.why(i);
        }
        return 31L * h + road.hoursToAll();
    }
}
