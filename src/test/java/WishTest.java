/** Promise 5: wish, that is the points 4, 8 and 9 of a step. */
final class WishTest {
    public static void main(String[] args) {
        Check check = new Check("WishTest");
        beforeTheFirstStep(check);
        speedKept(check);
        lead(check);
        gapKept(check);
        driverHeard(check);
        stopAndStages(check);
        sensorsDiffer(check);
        steering(check);
        ofTheLastStep(check);
        check.end();
    }

    private static void beforeTheFirstStep(Check check) {
        AssistRows a = new AssistRows();
        check.same("A", a.wish(0), 0.0);
        check.same("Z", a.wish(1), 0.0);
        check.same("LEFT", a.wish(2), -1.0);
        check.same("X", a.wish(3), -1.0);
        for (int what : new int[] {-1, 4, Integer.MIN_VALUE, Integer.MAX_VALUE}) {
            check.same("wish(" + what + ")", a.wish(what), 0.0);
        }
    }

    private static double pull(double wished, double speed) {
        AssistRows a = new AssistRows();
        a.limit(0, wished);
        a.step(speed, 0);
        return a.wish(0);
    }

    private static void speedKept(Check check) {
        check.same("half of what is missing", pull(20, 17), 1.5);
        check.same("half of what is too much", pull(17, 20), -1.5);
        check.same("at the speed", pull(20, 20), 0.0);
        check.same("2 at most", pull(30, 10), 2.0);
        check.same("-3.5 at least", pull(10, 30), -3.5);
        AssistRows a = new AssistRows();
        a.limit(0, 60);
        a.limit(3, 0.5);
        a.limit(2, 1);
        a.step(10, 0);
        check.same("PULL", a.wish(0), 0.5);
        a.step(70, 0);
        check.same("BRAKING", a.wish(0), -1.0);
        a.limit(3, 3);
        a.step(10, 0);
        check.same("2 at most, though PULL is 3", a.wish(0), 2.0);
        a.limit(3, -0.0);
        a.step(10, 0);
        check.same("a 0 has no sign", a.wish(0), 0.0);
    }

    private static void lead(Check check) {
        AssistRows a = new AssistRows();
        for (int n = 0; n < 2; n++) {
            a.object(0, 60, 0, 10, 0);
            a.step(20, 0);
            check.same("not sure enough", a.wish(3), -1.0);
            check.same("not sure enough", a.wish(2), -1.0);
        }
        a.object(0, 60, 0, 10, 0);
        a.step(20, 0);
        check.same("SURE 3", a.wish(3), 60.0);
        check.same("LEFT", a.wish(2), 6.0);
        a.object(0, 60, 0, 10, 0);
        a.step(10, 0);
        check.same("as fast as it", a.wish(2), -1.0);
        check.same("still the lead", a.wish(3), 60.0);
        a.step(10, 0);
        check.same("it coasts with SURE 3", a.wish(3), 60.0);
        a.step(10, 0);
        check.same("it coasts with SURE 2", a.wish(3), -1.0);
        AssistRows b = new AssistRows();
        for (int n = 0; n < 3; n++) {
            b.object(0, 80, 0, 10, 0);
            b.object(0, 60, 1, 10, 0);
            b.object(0, 60, -1.5, 0, 0);
            b.object(0, 40, 5, 10, 0);
            b.step(20, 0);
        }
        check.same("the least X of those in the lane", b.wish(3), 60.0);
        check.same("of several the least number", b.wish(2), 6.0);
    }

    private static double gapPull(double wished, double gap, double x, double v, double speed) {
        AssistRows a = new AssistRows();
        a.limit(0, wished);
        a.limit(1, gap);
        Scene.sureTrack(a, x, 0, v, speed);
        return a.wish(0);
    }

    private static void gapKept(Check check) {
        check.same("too near", gapPull(60, 1.5, 40, 19, 20), (40 - (3 + 1.5 * 20)) * 0.2 + (19.0 - 20) * 0.6);
        check.same("too near", gapPull(60, 2, 40, 19.5, 20), (40 - (3 + 2.0 * 20)) * 0.2 + (19.5 - 20) * 0.6);
        check.same("the lead is faster", gapPull(60, 1, 21, 23, 20), (21 - (3 + 1.0 * 20)) * 0.2 + (23.0 - 20) * 0.6);
        check.same("the speed is the lesser", gapPull(21, 1, 100, 23, 20), 0.5);
        check.same("-3.5 at least", gapPull(60, 3, 40, 15, 20), -3.5);
        check.same("2 at most", gapPull(60, 0.5, 100, 30, 20), 2.0);
    }

    private static void driverHeard(Check check) {
        AssistRows a = new AssistRows();
        a.limit(0, 11);
        a.limit(3, 3);
        a.driver(0, 0.125);
        a.step(10, 0);
        check.same("the greater of 0.5 and the pedal", a.wish(0), 0.5);
        a.driver(0, 0.875);
        a.step(10, 0);
        check.same("the pedal, above 2", a.wish(0), 2.625);
        a.limit(3, 1);
        a.step(10, 0);
        check.same("PULL is above the pedal", a.wish(0), 1.0);
        a.driver(1, 0.25);
        a.step(10, 0);
        check.same("the brake instead", a.wish(0), -2.25);
        a.limit(2, 2);
        a.step(10, 0);
        check.same("BRAKING is above the brake", a.wish(0), -2.0);
        a.driver(1, 0);
        a.driver(0, 0.0625);
        a.step(40, 0);
        check.same("the pedal after -3.5", a.wish(0), 0.1875);
    }

    private static void stopAndStages(Check check) {
        AssistRows a = Scene.stopping(5);
        check.same("stopping", a.wish(0), -2.0);
        a.driver(0, 1);
        a.step(5, 10);
        check.same("stopping against the pedal", a.wish(0), -2.0);
        a.step(0, 10);
        check.same("standing", a.wish(0), 0.0);
        a.driver(1, 0.5);
        a.step(5, 10);
        check.same("the brake instead of stopping", a.wish(0), -4.5);
        AssistRows b = Scene.withTrack(10, 0, 0, 20);
        b.driver(0, 1);
        Scene.see(b, 10, 0, 0, 20);
        check.same("stage 2", b.stage(), 2);
        check.same("stage 2 against the pedal", b.wish(0), -4.0);
        b.driver(1, 0.75);
        Scene.see(b, 10, 0, 0, 20);
        check.same("stage 3", b.stage(), 3);
        check.same("stage 3", b.wish(0), -9.0);
        b.limit(2, 5);
        Scene.see(b, 10, 0, 0, 20);
        check.same("BRAKING in stage 3", b.wish(0), -5.0);
        AssistRows c = Scene.withTrack(25, 0, 0, 20);
        c.driver(1, 0.75);
        Scene.see(c, 25, 0, 0, 20);
        check.same("stage 2", c.stage(), 2);
        check.same("stage 2, but the brake is stronger", c.wish(0), -6.75);
    }

    private static void sensorsDiffer(Check check) {
        AssistRows a = new AssistRows();
        a.limit(0, 60);
        for (int n = 0; n < 3; n++) {
            check.same("not yet", a.wish(0), n == 0 ? 0.0 : 2.0);
            a.object(0, 60, 15, 10, 0);
            a.object(1, 60, 15, 20, 0);
            a.step(10, 0);
        }
        check.same("no pull while sensors differ", a.wish(0), 0.0);
        a.driver(0, 0.5);
        a.object(0, 60, 15, 10, 0);
        a.object(1, 60, 15, 20, 0);
        a.step(10, 0);
        check.same("the pedal is heard", a.wish(0), 1.5);
    }

    private static void steering(Check check) {
        AssistRows a = new AssistRows();
        a.lane(0.5, -0.0625, 0);
        a.step(0, 0);
        check.same("at once when near", a.wish(1), 0 - (0.1 * 0.5 + 0.5 * -0.0625));
        a.lane(-5, -1, 0.01);
        a.step(0, 0);
        double z = 0 - (0.1 * 0.5 + 0.5 * -0.0625) + 0.05;
        check.same("a step to the left", a.wish(1), z);
        for (int n = 0; n < 20; n++) {
            a.step(0, 0);
        }
        check.same("0.3 at most", a.wish(1), 0.3);
        a.lane(5, 1, -0.01);
        a.step(0, 0);
        check.same("a step to the right", a.wish(1), 0.3 - 0.05);
        for (int n = 0; n < 20; n++) {
            a.step(0, 0);
        }
        check.same("-0.3 at least", a.wish(1), -0.3);
        a.driver(2, 0.05);
        a.step(0, 0);
        check.same("0.05 is let go", a.wish(1), -0.3);
        a.driver(2, -0.0501);
        a.step(0, 0);
        check.same("the driver steers", a.wish(1), -0.3 + 0.05);
        for (int n = 0; n < 20; n++) {
            a.step(0, 0);
        }
        check.same("back to 0", a.wish(1), 0.0);
        AssistRows b = new AssistRows();
        b.lane(-0.5, 0, 0);
        b.step(0, 0);
        check.same("just 0.05", b.wish(1), 0.05);
        AssistRows c = new AssistRows();
        c.lane(-0.51, 0, 0);
        c.step(0, 0);
        check.same("more than 0.05", c.wish(1), 0.05);
        c.step(0, 0);
        check.same("the rest", c.wish(1), 0.1 * 0.51);
        AssistRows d = new AssistRows();
        d.lane(-0.399, 0, 0);
        d.step(0, 0);
        d.lane(0.101, 0, 0);
        d.step(0, 0);
        check.same("0.05 apart, where Z - 0.05 is another number", d.wish(1), 0 - 0.1 * 0.101);
    }

    private static void ofTheLastStep(Check check) {
        AssistRows a = Scene.withTrack(60, 0, 10, 20);
        String before = Scene.picture(a);
        a.limit(0, 60);
        a.lane(5, 1, 0);
        a.driver(1, 1);
        a.object(0, 59, 0, 10, 0);
        check.holds("nothing changes before the next step", before.equals(Scene.picture(a)));
    }
}
