/** Promise 19: meanTiredness. */
public final class Promise19Test {
    public static void main(String[] args) {
        Check check = new Check("Promise19Test");
        PostRoad x = new PostRoad();
        check.due("meanTiredness() without teams", x.meanTiredness(), 0.0);
        x.addTeam(0, 100);
        check.due("meanTiredness()", x.meanTiredness(), 100.0);
        x.addTeam(1, 1);
        check.due("meanTiredness()", x.meanTiredness(), 50.5);
        x.addTeam(1, 0);
        check.due("meanTiredness()", x.meanTiredness(), 101.0 / 3.0);
        x.pass(1);
        check.due("meanTiredness()", x.meanTiredness(), 94.0 / 3.0);
        for (int i = 3; i < 10; i++) {
            x.addTeam(0, 7);
        }
        check.due("meanTiredness() of ten", x.meanTiredness(), 14.3);
        check.end();
    }
}
