/** Promise 7: time. */
final class TimeTest {
    public static void main(String[] args) {
        Check check = new Check("TimeTest");
        ifSIsAboveV(check);
        otherwiseMinus1(check);
        notThere(check);
        check.end();
    }

    private static void ifSIsAboveV(Check check) {
        check.sentence("X / (S - V) of a TRACK, if S is above V");
        AssistRows a = new AssistRows();
        a.object(0, 60, 12, 10, 0);
        a.object(0, 0, 5, -10, 0);
        a.step(20, 0);
        check.same("sure or not, in the LANE or not", a.time(0), 6.0);
        check.same("at X 0", a.time(1), 0.0);
        a.step(13, 1);
        check.same("X and S of the last STEP", a.time(0), 57.0 / (13 - 10));
        a.step(71, 1);
        check.same("a refused one is none", a.time(0), 57.0 / (13 - 10));
        AssistRows b = Scene.tracksAt(200);
        b.step(Double.MIN_VALUE, 0);
        check.same("as the division stands", b.time(0), Double.POSITIVE_INFINITY);
        AssistRows c = Scene.tracksAt(10, 30, 50, 70, 90, 110, 130, 150);
        c.step(10, 0);
        for (int i = 0; i < 8; i++) {
            check.same("TRACK " + i, c.time(i), 1.0 + 2 * i);
        }
    }

    private static double timeAt(double v, double s) {
        AssistRows a = new AssistRows();
        Scene.see(a, 60, 0, v, s);
        return a.time(0);
    }

    private static void otherwiseMinus1(Check check) {
        check.sentence("-1 otherwise");
        check.same("as fast", timeAt(10, 10), -1.0);
        check.same("just faster than V", timeAt(10, Math.nextUp(10.0)), 60 / (Math.nextUp(10.0) - 10));
        check.same("just slower than V", timeAt(10, Math.nextDown(10.0)), -1.0);
        check.same("both standing", timeAt(0, 0), -1.0);
        check.same("at X 0, as fast", Scene.withTrack(0, 0, 10, 10).time(0), -1.0);
    }

    private static void notThere(Check check) {
        check.sentence("and when it is not THERE");
        AssistRows a = new AssistRows();
        a.object(0, 60, 0, 10, 0);
        check.same("a MEASURE is no TRACK yet", a.time(0), -1.0);
        a.step(20, 0);
        check.same("THERE", a.time(0), 6.0);
        check.same("not THERE", a.time(1), -1.0);
        for (int n = 0; n < 3; n++) {
            a.step(20, 0);
        }
        check.same("with COAST 3", a.time(0), 6.0);
        a.step(20, 0);
        check.same("gone", a.time(0), -1.0);
        Refusal refusal = new Refusal(check);
        refusal.everywhere("time(8)", b -> b.time(8), -1);
        for (int object : Scene.FAR) {
            refusal.everywhere("time(" + object + ")", b -> b.time(object), -1);
        }
    }
}
