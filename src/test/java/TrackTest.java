/** Promise 11: track. */
final class TrackTest {
    public static void main(String[] args) {
        Check check = new Check("TrackTest");
        refusals(check);
        read(check);
        check.end();
    }

    private static void refusals(Check check) {
        AssistRows a = new AssistRows();
        for (int i : new int[] {-1, 8, Integer.MIN_VALUE, Integer.MAX_VALUE}) {
            check.same("track " + i, a.track(i, 0), -1);
            check.same("-1 before -2", a.track(i, 6), -1);
        }
        for (int what : new int[] {-1, 6, Integer.MIN_VALUE, Integer.MAX_VALUE}) {
            check.same("what " + what, a.track(7, what), -2);
        }
    }

    private static void read(Check check) {
        AssistRows a = new AssistRows();
        a.object(0, 12.3456, -1.9876, -3.4567, 0);
        check.same("not there before the step", a.track(0, 0), 0);
        a.step(0, 0);
        check.same("there", a.track(0, 0), 1);
        check.same("SURE", a.track(0, 1), 1);
        check.same("COAST", a.track(0, 2), 0);
        check.same("X", a.track(0, 3), 1234);
        check.same("Y, cut towards 0", a.track(0, 4), -198);
        check.same("V, cut towards 0", a.track(0, 5), -345);
        for (int n = 0; n < 4; n++) {
            a.step(0, 0);
        }
        for (int what = 0; what < 6; what++) {
            check.same("gone, what " + what, a.track(0, what), 0);
        }
        AssistRows b = new AssistRows();
        b.object(0, 0, 0, 0, 0);
        b.object(0, 200, 20, 70, 0);
        b.step(0, 0);
        check.same("at 0", b.track(0, 3), 0);
        check.same("the most X", b.track(1, 3), 20000);
        check.same("the most Y", b.track(1, 4), 2000);
        check.same("the most V", b.track(1, 5), 7000);
    }
}
