/** Promise 3: lane. */
final class LaneTest {
    public static void main(String[] args) {
        Check check = new Check("LaneTest");
        edges(check);
        refusalsChangeNothing(check);
        middle(check);
        check.end();
    }

    private static void edges(Check check) {
        AssistRows a = new AssistRows();
        check.same("least", a.lane(-5, -1, -0.01), 1);
        check.same("most", a.lane(5, 1, 0.01), 1);
        check.same("offset below", a.lane(Math.nextDown(-5.0), 0, 0), -2);
        check.same("offset above", a.lane(Math.nextUp(5.0), 0, 0), -2);
        check.same("slope below", a.lane(0, Math.nextDown(-1.0), 0), -2);
        check.same("slope above", a.lane(0, Math.nextUp(1.0), 0), -2);
        check.same("curve below", a.lane(0, 0, Math.nextDown(-0.01)), -2);
        check.same("curve above", a.lane(0, 0, Math.nextUp(0.01)), -2);
        for (double v : Scene.NO_NUMBERS) {
            check.same("offset " + v, a.lane(v, 0, 0), -2);
            check.same("slope " + v, a.lane(0, v, 0), -2);
            check.same("curve " + v, a.lane(0, 0, v), -2);
        }
    }

    private static void refusalsChangeNothing(Check check) {
        AssistRows a = new AssistRows();
        a.lane(0.25, 0, 0);
        a.lane(-0.25, 0, 1);
        a.step(0, 0);
        check.same("the lane as it was told", a.wish(1), -0.025);
    }

    /** A lead must lie within 1.75 of OFFSET + X * (SLOPE + X * CURVE). */
    private static void middle(Check check) {
        check.same("straight, at the edge", leadX(0, 0, 0, 50, 1.75), 50.0);
        check.same("straight, at the right edge", leadX(0, 0, 0, 50, -1.75), 50.0);
        check.same("straight, beyond", leadX(0, 0, 0, 50, 1.7501), -1.0);
        check.same("straight, beyond on the right", leadX(0, 0, 0, 50, -1.7501), -1.0);
        check.same("offset", leadX(2, 0, 0, 50, 3.75), 50.0);
        check.same("offset, beyond", leadX(2, 0, 0, 50, 0.125), -1.0);
        check.same("slope", leadX(0, 0.25, 0, 40, 11.75), 40.0);
        check.same("slope, beyond", leadX(0, 0.25, 0, 40, 8.125), -1.0);
        check.same("curve", leadX(0, 0, 0.0078125, 32, 9.75), 32.0);
        check.same("curve, beyond", leadX(0, 0, 0.0078125, 32, 6.125), -1.0);
        check.same("all three", leadX(-1, -0.25, 0.0078125, 64, 15 - 1.75), 64.0);
        check.same("all three, beyond", leadX(-1, -0.25, 0.0078125, 64, 13), -1.0);
    }

    private static double leadX(double offset, double slope, double curve, double x, double y) {
        AssistRows a = new AssistRows();
        a.lane(offset, slope, curve);
        Scene.sureTrack(a, x, y, 10, 10);
        return a.wish(3);
    }
}
