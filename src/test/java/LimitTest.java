/** Promise 10: limit. */
final class LimitTest {
    private static final double[] LEAST = {0, 0.5, 1, 0};
    private static final double[] MOST = {60, 3, 9, 3};

    public static void main(String[] args) {
        Check check = new Check("LimitTest");
        ranges(check);
        refusals(check);
        kept(check);
        check.end();
    }

    private static void ranges(Check check) {
        AssistRows a = new AssistRows();
        for (int what = 0; what < 4; what++) {
            check.same("least of " + what, a.limit(what, LEAST[what]), 1);
            check.same("most of " + what, a.limit(what, MOST[what]), 1);
            check.same("below " + what, a.limit(what, Math.nextDown(LEAST[what])), -2);
            check.same("above " + what, a.limit(what, Math.nextUp(MOST[what])), -2);
            for (double v : Scene.NO_NUMBERS) {
                check.same("limit(" + what + ", " + v + ")", a.limit(what, v), -2);
            }
        }
    }

    private static void refusals(Check check) {
        AssistRows a = new AssistRows();
        for (int what : new int[] {-1, 4, Integer.MIN_VALUE, Integer.MAX_VALUE}) {
            check.same("limit " + what, a.limit(what, 1), -1);
            check.same("-1 before -2", a.limit(what, Double.NaN), -1);
        }
        a.limit(0, 3);
        a.limit(0, 61);
        a.step(0, 0);
        check.same("a refused limit changes nothing", a.wish(0), 1.5);
    }

    private static void kept(Check check) {
        AssistRows a = Scene.withTrack(23, 0, 10, 10);
        a.limit(0, 60);
        a.limit(1, 2);
        Scene.see(a, 23, 0, 10, 10);
        check.same("the gap", a.wish(0), (23 - (3 + 2.0 * 10)) * 0.2);
        AssistRows b = new AssistRows();
        b.limit(0, 60);
        b.limit(2, 4);
        b.limit(3, 3);
        b.driver(0, 1);
        b.step(10, 0);
        check.same("the pull", b.wish(0), 3.0);
        b.driver(1, 1);
        b.step(10, 0);
        check.same("the braking", b.wish(0), -4.0);
    }
}
