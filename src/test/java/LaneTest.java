/** Promise 3: lane. */
final class LaneTest {
    public static void main(String[] args) {
        Check check = new Check("LaneTest");
        offsetIsMinus5To5(check);
        slopeIsMinus1To1(check);
        curveIsWithinAHundredth(check);
        theMiddle(check);
        check.end();
    }

    private static void offsetIsMinus5To5(Check check) {
        check.sentence("-2 offset is not -5 .. 5");
        new Range(check).answersOne("offset", -5, 5, (a, v) -> a.lane(v, 1, 0.01));
        check.same("5 is the middle", leadX(5, 0, 0, 10, 6.75), 10.0);
        check.same("-5 is the middle", leadX(-5, 0, 0, 10, -6.75), 10.0);
    }

    private static void slopeIsMinus1To1(Check check) {
        check.sentence("slope not -1 .. 1");
        new Range(check).answersOne("slope", -1, 1, (a, v) -> a.lane(-5, v, -0.01));
        check.same("1", leadX(0, 1, 0, 16, 17.75), 16.0);
        check.same("-1", leadX(0, -1, 0, 16, -17.75), 16.0);
    }

    private static void curveIsWithinAHundredth(Check check) {
        check.sentence("curve not -0.01 .. 0.01");
        new Range(check).answersOne("curve", -0.01, 0.01, (a, v) -> a.lane(5, -1, v));
        check.same("0.01", leadX(0, 0, 0.01, 40, 17.75), 40.0);
        check.same("-0.01", leadX(0, 0, -0.01, 40, -17.75), 40.0);
    }

    /** The last place in the lane and the first beyond it, on the left and on the right. */
    private static void theMiddle(Check check) {
        check.sentence("its middle at X is OFFSET + X * (SLOPE + X * CURVE)");
        edges(check, "OFFSET alone", 4, 0, 0, 48, 4);
        edges(check, "SLOPE alone", 0, 0.25, 0, 40, 10);
        edges(check, "CURVE alone", 0, 0, 0.0078125, 32, 8);
        edges(check, "all three", -1, -0.25, 0.0078125, 64, 15);
    }

    private static void edges(Check check, String name, double offset, double slope, double curve, double x, double middle) {
        check.same(name + ", left", leadX(offset, slope, curve, x, middle + 1.75), x);
        check.same(name + ", beyond", leadX(offset, slope, curve, x, Math.nextUp(middle + 1.75)), -1.0);
        check.same(name + ", right", leadX(offset, slope, curve, x, middle - 1.75), x);
        check.same(name + ", beyond", leadX(offset, slope, curve, x, Math.nextDown(middle - 1.75)), -1.0);
    }

    private static double leadX(double offset, double slope, double curve, double x, double y) {
        AssistRows a = new AssistRows();
        a.lane(offset, slope, curve);
        for (int n = 0; n < 3; n++) {
            Scene.see(a, x, y, 10, 10);
        }
        return a.wish(3);
    }
}
