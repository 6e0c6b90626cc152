/** Promise 17: way. */
public final class Promise17Test {
    public static void main(String[] args) {
        Check check = new Check("Promise17Test");
        PostRoad x = Check.road("1;2+5;4;8;9-5;3;7;");
        int[] at = {0, 1, 3, 7, 15, 24, 27, 34};
        for (int from = 0; from < 8; from++) {
            for (int to = 0; to < 8; to++) {
                check.due("way(" + from + ", " + to + ")", x.way(from, to), Math.abs(at[from] - at[to]));
            }
        }
        x.setStage(1, 5, 0, true);
        x.setInn(1, 0, 0, true);
        check.due("way(0, 3) over a blocked stage and a shut inn", x.way(0, 3), 10);
        PostRoad y = new PostRoad();
        check.due("way(0, 1)", y.way(0, 1), 2);
        check.badIndex(y, "way(-1, 0)", () -> y.way(-1, 0));
        check.badIndex(y, "way(2, 0)", () -> y.way(2, 0));
        check.badIndex(y, "way(0, -1)", () -> y.way(0, -1));
        check.badIndex(y, "way(0, 2)", () -> y.way(0, 2));
        check.badIndex(y, "way(2, 2)", () -> y.way(2, 2));
        check.end();
    }
}
