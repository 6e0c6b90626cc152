/** Promise 24: digest. */
public final class Promise24Test {
    public static void main(String[] args) {
        Check check = new Check("Promise24Test");
        PostRoad x = new PostRoad();
        check.due("digest() of a new object", x.digest(), Digests.of(x, 0, 0));
        check.due("digest() again", x.digest(), Digests.of(x, 0, 0));
        byHand(check);
        x.append('7');
        check.due("digest() with a text", x.digest(), Digests.of(x, 1, 0));
        Check.type(x, "2+3;1;3-2;");
        x.parse();
        check.due("digest() of a road", x.digest(), Digests.of(x, 10, 1));
        for (int i = 0; i < 10; i++) {
            x.addTeam(i % 4, 10 * i);
            x.give(i % 4, (i + 1 + i / 4) % 4, i % 3 == 0);
        }
        for (int i = 0; i < 12; i++) {
            check.due("digest() after " + i + " hours", x.digest(), Digests.of(x, 10, 4));
            x.pass(1);
        }
        x.setStage(1, 9, 5, true);
        x.setInn(2, 0, 3, true);
        x.clearText();
        check.due("digest() with a blocked stage", x.digest(), Digests.of(x, 0, 4));
        x.undo();
        check.due("digest() after undo()", x.digest(), Digests.of(x, 0, 3));
        check.end();
    }

    /** The values of a new object with a letter, written down. */
    private static void byHand(Check check) {
        PostRoad x = new PostRoad();
        x.give(0, 1, true);
        int[] values = {
            0,
            2, 0, 1, 0, 0, 0, 0, 0, 0, 1, 0,
            2, 0, 0, 10, 10, 0,
            2, 100, 0, 0, 0, 1, 2,
            2, 100, 0, 0, 0, 0, 2,
            0, 1, 1, 0, 0, -1, -1, 0, 6,
            -1,
            1};
        long h = 3491;
        for (int v : values) {
            h = 31 * h + v;
        }
        check.due("digest() of a letter", x.digest(), h);
    }
}
