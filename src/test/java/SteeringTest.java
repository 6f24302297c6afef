/** Point 9 of a step: Z, what to steer by. */
final class SteeringTest {
    public static void main(String[] args) {
        Check check = new Check("SteeringTest");
        gOfTheLane(check);
        gWithin3Tenths(check);
        steerAbove5Hundredths(check);
        atMost5Hundredths(check);
        towardsG(check);
        check.end();
    }

    private static double first(double offset, double slope) {
        AssistRows a = new AssistRows();
        a.lane(offset, slope, 0);
        a.step(0, 0);
        return a.wish(1);
    }

    private static void gOfTheLane(Check check) {
        check.sentence("G is 0 - (0.1 * OFFSET + 0.5 * SLOPE)");
        check.same("OFFSET", first(0.25, 0), -(0.1 * 0.25));
        check.same("SLOPE", first(0, -0.0625), 0.03125);
        check.same("both", first(0.5, -0.0625), 0 - (0.1 * 0.5 + 0.5 * -0.0625));
        AssistRows a = new AssistRows();
        a.lane(0, 0, 0.01);
        a.step(0, 0);
        check.same("CURVE is no part of it", a.wish(1), 0.0);
    }

    /** Where Z comes to rest. */
    private static double last(double offset, double slope) {
        AssistRows a = new AssistRows();
        a.lane(offset, slope, 0);
        for (int n = 0; n < 20; n++) {
            a.step(0, 0);
        }
        return a.wish(1);
    }

    private static void gWithin3Tenths(Check check) {
        check.sentence("brought between -0.3 and 0.3");
        check.same("0.3", last(0, -0.6), 0.3);
        check.same("just less", last(0, -Math.nextDown(0.6)), Math.nextDown(0.3));
        check.same("just more", last(0, -Math.nextUp(0.6)), 0.3);
        check.same("1", last(-5, -1), 0.3);
        check.same("-0.3", last(0, 0.6), -0.3);
        check.same("just less", last(0, Math.nextDown(0.6)), -Math.nextDown(0.3));
        check.same("just more", last(0, Math.nextUp(0.6)), -0.3);
        check.same("-1", last(5, 1), -0.3);
    }

    private static void steerAbove5Hundredths(Check check) {
        check.sentence("0 if |STEER| is above 0.05.");
        for (double sign : new double[] {1, -1}) {
            AssistRows a = new AssistRows();
            a.lane(-0.25, 0, 0);
            a.driver(2, sign * 0.05);
            a.step(0, 0);
            check.same("0.05", a.wish(1), 0.1 * 0.25);
            a.driver(2, sign * Math.nextUp(0.05));
            a.step(0, 0);
            check.same("more", a.wish(1), 0.0);
            a.driver(2, sign);
            a.step(0, 0);
            check.same("1", a.wish(1), 0.0);
            a.driver(2, 0);
            a.step(0, 0);
            check.same("0", a.wish(1), 0.1 * 0.25);
        }
        AssistRows b = new AssistRows();
        b.lane(-5, 0, 0);
        for (int n = 0; n < 4; n++) {
            b.step(0, 0);
        }
        double z = b.wish(1);
        b.driver(2, 1);
        b.step(0, 0);
        check.same("Z goes back to 0 by steps", b.wish(1), z - 0.05);
    }

    /** Z is where a lane of this offset has brought it; then it is told another one. */
    private static double then(double offset, double other) {
        AssistRows a = new AssistRows();
        a.lane(offset, 0, 0);
        a.step(0, 0);
        a.lane(other, 0, 0);
        a.step(0, 0);
        return a.wish(1);
    }

    private static void atMost5Hundredths(Check check) {
        check.sentence("Z (0 at first) becomes G if |G - Z| is at most 0.05");
        check.same("0.05", first(0, -0.1), 0.05);
        check.same("just more, so Z + 0.05", first(0, -Math.nextUp(0.1)), 0.05);
        check.same("-0.05", first(0, 0.1), -0.05);
        check.same("just more, so Z - 0.05", first(0, Math.nextUp(0.1)), -0.05);
        check.same("G is there already", then(0.25, 0.25), -(0.1 * 0.25));
        double z = 0 - 0.1 * -0.399;
        double g = 0 - 0.1 * 0.101;
        check.holds("0.05 apart, but Z - 0.05 is another number", z - g == 0.05 && z - 0.05 != g);
        check.same("it becomes G", then(-0.399, 0.101), g);
        check.same("and the other way", then(0.399, -0.101), -g);
    }

    private static void towardsG(Check check) {
        check.sentence("otherwise Z + 0.05 or Z - 0.05, towards G.");
        AssistRows a = new AssistRows();
        a.lane(-5, -1, 0);
        double z = 0;
        for (int n = 0; n < 5; n++) {
            a.step(0, 0);
            z = z + 0.05;
            check.same("up", a.wish(1), z);
        }
        a.step(0, 0);
        check.same("the rest", a.wish(1), 0.3);
        a.lane(5, 1, 0);
        z = 0.3;
        for (int n = 0; n < 11; n++) {
            a.step(0, 0);
            z = z - 0.05;
            check.same("down", a.wish(1), z);
        }
        a.step(0, 0);
        check.same("the rest", a.wish(1), -0.3);
        AssistRows b = new AssistRows();
        b.lane(-5, -1, 0);
        b.step(0, 0);
        b.step(71, 0);
        check.same("a refused STEP is none", b.wish(1), 0.05);
    }
}
