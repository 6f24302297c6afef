/** Point 8 of a step: A, what to accelerate by. */
final class PullTest {
    public static void main(String[] args) {
        Check check = new Check("PullTest");
        halfOfWhatIsMissing(check);
        theLesserWithALead(check);
        inMode6(check);
        betweenMinus3AndAHalfAnd2(check);
        pedalAbove0(check);
        stopping(check);
        brakeAbove0(check);
        stage2(check);
        stage3(check);
        betweenBrakingAndPull(check);
        check.end();
    }

    private static double pull(double wished, double speed) {
        AssistRows a = new AssistRows();
        a.limit(0, wished);
        a.step(speed, 0);
        return a.wish(0);
    }

    private static void halfOfWhatIsMissing(Check check) {
        check.sentence("A is (SPEED wished - S) * 0.5");
        check.same("17 of 20", pull(20, 17), 1.5);
        check.same("20 of 17", pull(17, 20), -1.5);
        check.same("20 of 20", pull(20, 20), 0.0);
    }

    private static double gapPull(double wished, double gap, double x, double v, double speed) {
        AssistRows a = new AssistRows();
        a.limit(0, wished);
        a.limit(1, gap);
        for (int n = 0; n < 3; n++) {
            Scene.see(a, x, 0, v, speed);
        }
        return a.wish(0);
    }

    private static void theLesserWithALead(Check check) {
        check.sentence("with a LEAD the lesser of that and (X - (3 + GAP * S)) * 0.2 + (V - S) * 0.6");
        check.same("the gap is the lesser", gapPull(60, 1, 26, 20, 20), (26 - (3 + 1.0 * 20)) * 0.2);
        check.same("the LEAD is slower", gapPull(60, 1.5, 40, 19, 20), (40 - (3 + 1.5 * 20)) * 0.2 + (19.0 - 20) * 0.6);
        check.same("the LEAD is faster", gapPull(60, 1, 21, 23, 20), (21 - (3 + 1.0 * 20)) * 0.2 + (23.0 - 20) * 0.6);
        check.same("the speed is the lesser", gapPull(21, 1, 100, 23, 20), 0.5);
        check.same("just the lesser", gapPull(21, 1, 25.4375, 20, 20), (25.4375 - 23) * 0.2);
        check.same("just the greater", gapPull(21, 1, 25.5625, 20, 20), 0.5);
        AssistRows a = new AssistRows();
        a.limit(0, 21);
        Scene.see(a, 10, 0, 0, 20);
        Scene.see(a, 10, 0, 0, 20);
        check.same("a TRACK that is no LEAD", a.wish(0), 0.5);
    }

    private static void inMode6(Check check) {
        check.sentence("In MODE 6 the lesser of it and 0.");
        AssistRows a = new AssistRows();
        a.limit(0, 12);
        for (int n = 1; n <= 4; n++) {
            Scene.seeTwice(a, 60, 15, 10, 20, 10, 0);
            check.same("1 is above 0, DIFFERING is " + n, a.wish(0), n >= 3 ? 0.0 : 1.0);
        }
        a.limit(0, 8);
        Scene.seeTwice(a, 60, 15, 10, 20, 10, 0);
        check.same("-1 is below 0", a.wish(0), -1.0);
        a.limit(0, 60);
        a.driver(0, 0.5);
        Scene.seeTwice(a, 60, 15, 10, 20, 10, 0);
        check.same("before the PEDAL", a.wish(0), 1.5);
    }

    private static void betweenMinus3AndAHalfAnd2(Check check) {
        check.sentence("Then it is brought between -3.5 and 2.");
        check.same("2", pull(14, 10), 2.0);
        check.same("below it", pull(Math.nextDown(14.0), 10), (Math.nextDown(14.0) - 10) * 0.5);
        check.same("above it", pull(Math.nextUp(14.0), 10), 2.0);
        check.same("far above it", pull(60, 0), 2.0);
        AssistRows a = new AssistRows();
        a.limit(0, 60);
        a.limit(3, 3);
        a.step(10, 0);
        check.same("above it, though PULL is 3", a.wish(0), 2.0);
        check.same("-3.5", pull(10, 17), -3.5);
        check.same("above it", pull(Math.nextUp(10.0), 17), (Math.nextUp(10.0) - 17) * 0.5);
        check.same("below it", pull(Math.nextDown(10.0), 17), -3.5);
        check.same("far below it", pull(0, 70), -3.5);
        check.same("below it with a LEAD", gapPull(60, 3, 40, 15, 20), -3.5);
    }

    private static double pedalPull(double wished, double speed, double pedal) {
        AssistRows a = new AssistRows();
        a.limit(0, wished);
        a.limit(3, 3);
        a.driver(0, pedal);
        a.step(speed, 0);
        return a.wish(0);
    }

    private static void pedalAbove0(Check check) {
        check.sentence("PEDAL above 0: the greater of it and 3 * PEDAL.");
        check.same("0", pedalPull(10, 12, 0), -1.0);
        check.same("0 with a sign", pedalPull(10, 12, -0.0), -1.0);
        check.same("just above 0", pedalPull(10, 12, Double.MIN_VALUE), 3 * Double.MIN_VALUE);
        check.same("3 * 0.125 is the lesser", pedalPull(11, 10, 0.125), 0.5);
        check.same("3 * 0.25 is the greater", pedalPull(11, 10, 0.25), 0.75);
        check.same("beyond the 2 it was brought to", pedalPull(60, 10, 0.875), 2.625);
        check.same("1", pedalPull(60, 10, 1), 3.0);
        check.same("from -3.5", pedalPull(0, 70, 0.0625), 0.1875);
    }

    private static void stopping(Check check) {
        check.sentence("STOPPING: -2 instead (0 if S is 0).");
        AssistRows a = Scene.stopping(5);
        check.same("instead of -2.5", a.wish(0), -2.0);
        a.limit(0, 60);
        a.driver(0, 1);
        a.step(Double.MIN_VALUE, 10);
        check.same("S is just not 0, instead of 2 and of the PEDAL's 3", a.wish(0), -2.0);
        a.step(0, 10);
        check.same("S is 0", a.wish(0), 0.0);
        a.step(-0.0, 10);
        check.same("S is 0 with a sign", a.wish(0), 0.0);
        a.hands(true, 10);
        a.step(5, 10);
        check.same("STOPPING with hands ON", a.wish(0), -2.0);
        a.step(0, 10);
        check.same("it has ended", a.wish(0), 2.0);
        AssistRows b = Scene.stopping(5);
        b.limit(0, 60);
        for (int n = 0; n < 3; n++) {
            Scene.seeTwice(b, 60, 15, 10, 20, 5, 10);
        }
        check.same("in MODE 6", b.mode(), 6);
        check.same("it is STOPPING as well", b.wish(0), -2.0);
    }

    private static void brakeAbove0(Check check) {
        check.sentence("BRAKE above 0: -9 * BRAKE instead.");
        AssistRows a = new AssistRows();
        a.limit(0, 60);
        a.driver(0, 1);
        a.driver(1, 0);
        a.step(5, 0);
        check.same("0", a.wish(0), 2.0);
        a.driver(1, Double.MIN_VALUE);
        a.step(5, 0);
        check.same("just above 0", a.wish(0), -9 * Double.MIN_VALUE);
        a.driver(1, 0.5);
        a.step(5, 0);
        check.same("0.5", a.wish(0), -4.5);
        a.driver(1, 1);
        a.step(5, 0);
        check.same("1", a.wish(0), -9.0);
        AssistRows b = Scene.stopping(5);
        b.driver(1, 0.125);
        b.step(5, 10);
        check.same("instead of STOPPING", b.wish(0), -1.125);
        b.step(0, 10);
        check.same("instead of STOPPING at S 0", b.wish(0), -1.125);
    }

    /** The pull in a stage with a lead near, by the driver's pedal and brake; the speed wished is 60. */
    private static AssistRows inStage(int stage, double pedal, double brake) {
        AssistRows a = new AssistRows();
        a.limit(0, 60);
        a.limit(3, 3);
        a.driver(0, pedal);
        a.driver(1, brake);
        for (int n = 0; n < 2 + stage; n++) {
            Scene.see(a, 10, 0, 0, 20);
        }
        return a;
    }

    private static void stage2(Check check) {
        check.sentence("STAGE 2: the lesser of it and -4");
        check.same("it is STAGE 2", inStage(2, 0, 0).stage(), 2);
        check.same("-3.5 is not the lesser", inStage(2, 0, 0).wish(0), -4.0);
        check.same("3 of the PEDAL is not", inStage(2, 1, 0).wish(0), -4.0);
        check.same("-3.375 of the BRAKE is not", inStage(2, 0, 0.375).wish(0), -4.0);
        check.same("-4.5 of the BRAKE is", inStage(2, 0, 0.5).wish(0), -4.5);
        check.same("in STAGE 1 there is no -4", inStage(1, 0, 0).wish(0), -3.5);
        check.same("nor a lesser PEDAL", inStage(1, 1, 0).wish(0), 3.0);
    }

    private static void stage3(Check check) {
        check.sentence("3: and -9.");
        check.same("it is STAGE 3", inStage(3, 0, 0).stage(), 3);
        check.same("-3.5 is not the lesser", inStage(3, 0, 0).wish(0), -9.0);
        check.same("3 of the PEDAL is not", inStage(3, 1, 0).wish(0), -9.0);
        check.same("-4.5 of the BRAKE is not", inStage(3, 0, 0.5).wish(0), -9.0);
        check.same("-9 of the BRAKE is the same", inStage(3, 0, 1).wish(0), -9.0);
        AssistRows a = Scene.stopping(20);
        for (int n = 0; n < 5; n++) {
            Scene.seeTwice(a, 10, 0, 0, 0, 20, 10);
        }
        check.same("against STOPPING", a.wish(0), -9.0);
    }

    private static void betweenBrakingAndPull(Check check) {
        check.sentence("At last it is brought between - BRAKING and PULL.");
        AssistRows a = new AssistRows();
        a.limit(0, 11);
        a.limit(3, 0.5);
        a.step(10, 0);
        check.same("as much as PULL", a.wish(0), 0.5);
        a.limit(3, Math.nextDown(0.5));
        a.step(10, 0);
        check.same("PULL is just less", a.wish(0), Math.nextDown(0.5));
        a.limit(3, 0);
        a.step(10, 0);
        check.same("PULL is 0", a.wish(0), 0.0);
        a.driver(0, 1);
        a.limit(3, 1);
        a.step(10, 0);
        check.same("the PEDAL as well", a.wish(0), 1.0);
        a.limit(2, 4.5);
        a.driver(1, 0.5);
        a.step(10, 0);
        check.same("as much as BRAKING", a.wish(0), -4.5);
        a.limit(2, Math.nextDown(4.5));
        a.step(10, 0);
        check.same("BRAKING is just less", a.wish(0), -Math.nextDown(4.5));
        AssistRows b = inStage(3, 0, 0);
        b.limit(2, 5);
        Scene.see(b, 10, 0, 0, 20);
        check.same("STAGE 3 as well", b.wish(0), -5.0);
        AssistRows c = Scene.stopping(5);
        c.limit(2, 1);
        c.step(5, 10);
        check.same("STOPPING as well", c.wish(0), -1.0);
    }
}
