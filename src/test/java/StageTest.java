/** Promise 6: stage, that is point 5 of a step. */
final class StageTest {
    /** Seconds that are left to a lead for which this stage is due. */
    private static final double[] LEFT_OF_DUE = {4, 2, 1, 0.5};

    public static void main(String[] args) {
        Check check = new Check("StageTest");
        stageOfTheLastStep(check);
        leftBelow0(check);
        steerAbove3Tenths(check);
        below8Tenths(check);
        below16Tenths(check);
        below26Tenths(check);
        oneMoreOrDue(check);
        check.end();
    }

    /** The stage to which a lead, left that many seconds away, brings it in seven steps. */
    private static int keptStage(double left) {
        AssistRows a = new AssistRows();
        for (int n = 0; n < 7; n++) {
            seeLeft(a, left);
        }
        return a.stage();
    }

    /** A lead that stands where it was, at a speed of 16 (times and divisions by 16 are exact). */
    private static void seeLeft(AssistRows a, double left) {
        Scene.see(a, left * 16, 0, 0, 16);
    }

    private static void stageOfTheLastStep(Check check) {
        check.sentence("`int stage()`: STAGE.");
        AssistRows a = new AssistRows();
        check.same("before the first STEP", a.stage(), 0);
        for (int n = 0; n < 3; n++) {
            seeLeft(a, 0.5);
        }
        check.same("of the last STEP", a.stage(), 1);
        a.object(0, 8, 0, 0, 0);
        a.driver(2, 1);
        check.same("told, but no STEP", a.stage(), 1);
        check.same("refused", a.step(71, 0), -2);
        check.same("of the last STEP still", a.stage(), 1);
    }

    private static void leftBelow0(Check check) {
        check.sentence("DUE is 0 if LEFT is below 0");
        check.same("LEFT of 0 is not below", keptStage(0), 3);
        AssistRows a = Scene.withTrack(8, 0, 16, 16);
        check.same("LEFT of -1, the LEAD is as fast", a.stage(), 0);
        AssistRows b = Scene.withTrack(8, 5, 0, 16);
        check.same("LEFT of -1, no LEAD", b.stage(), 0);
        AssistRows c = Scene.withTrack(8, 0, 0, Double.MIN_VALUE);
        check.same("LEFT without end", c.stage(), 0);
    }

    private static void steerAbove3Tenths(Check check) {
        check.sentence("or |STEER| is above 0.3");
        for (double sign : new double[] {1, -1}) {
            AssistRows a = Scene.withTrack(8, 0, 0, 16);
            a.driver(2, sign * 0.3);
            seeLeft(a, 0.5);
            check.same("0.3", a.stage(), 2);
            a.driver(2, sign * Math.nextUp(0.3));
            seeLeft(a, 0.5);
            check.same("more", a.stage(), 0);
            a.driver(2, sign);
            seeLeft(a, 0.5);
            check.same("1", a.stage(), 0);
            a.driver(2, 0);
            seeLeft(a, 0.5);
            check.same("0", a.stage(), 1);
        }
    }

    private static void below8Tenths(Check check) {
        check.sentence("otherwise 3 if LEFT is below 0.8");
        check.same("the last one below", keptStage(Math.nextDown(0.8)), 3);
        check.same("0.8", keptStage(0.8), 2);
    }

    private static void below16Tenths(Check check) {
        check.sentence("2 below 1.6");
        check.same("the last one below", keptStage(Math.nextDown(1.6)), 2);
        check.same("1.6", keptStage(1.6), 1);
    }

    private static void below26Tenths(Check check) {
        check.sentence("1 below 2.6, otherwise 0.");
        check.same("the last one below", keptStage(Math.nextDown(2.6)), 1);
        check.same("2.6", keptStage(2.6), 0);
        check.same("12", keptStage(12), 0);
    }

    /** Each stage against each that is due. */
    private static void oneMoreOrDue(Check check) {
        check.sentence("STAGE (0 at first): if DUE is above it, it is one more, otherwise DUE.");
        for (int stage = 0; stage <= 3; stage++) {
            for (int due = 0; due <= 3; due++) {
                AssistRows a = Scene.withTrack(32, 0, 0, 8);
                for (int n = 0; n < stage; n++) {
                    seeDue(a, stage);
                }
                check.same("it is " + stage, a.stage(), stage);
                seeDue(a, due);
                check.same("it is " + stage + " and due is " + due, a.stage(), due > stage ? stage + 1 : due);
            }
        }
    }

    /** The lead stays where it is; own speed says how many seconds are left. */
    private static void seeDue(AssistRows a, int due) {
        Scene.see(a, 32, 0, 0, 32 / LEFT_OF_DUE[due]);
    }
}
