/** Promise 4: step, what it refuses, and its point 1. */
final class StepTest {
    public static void main(String[] args) {
        Check check = new Check("StepTest");
        speedIs0To70(check);
        tIsNotBelowNow(check);
        itAnswersTheMode(check);
        dIsTheTimeLessNow(check);
        tracksMoveByTheNewSpeed(check);
        inThisOrder(check);
        check.end();
    }

    private static void speedIs0To70(Check check) {
        check.sentence("-2 speed is not 0 .. 70");
        AssistRows a = new AssistRows();
        check.same("0", a.step(0, 0), 0);
        check.same("0 with a sign", a.step(-0.0, 0), 0);
        check.same("70", a.step(70, 0), 0);
        new Range(check).refused(State.values(), "speed", 0, 70, (b, v) -> b.step(v, 50));
    }

    private static void tIsNotBelowNow(Check check) {
        check.sentence("or t below NOW or above 100000");
        new Range(check).ofTime("t", (a, v) -> a.step(10, v));
        AssistRows a = new AssistRows();
        check.same("0 with a sign", a.step(10, -0.0), 0);
        check.same("100000", a.step(10, 100000), 0);
        check.same("NOW again", a.step(10, 100000), 0);
        check.same("below NOW", a.step(10, Math.nextDown(100000.0)), -2);
    }

    private static void itAnswersTheMode(Check check) {
        check.sentence("A STEP: the MODE.");
        AssistRows a = new AssistRows();
        check.same("free", a.step(10, 0), 0);
        a.driver(0, 1);
        check.same("the driver", a.step(10, 0), 2);
        check.same("mode() answers the same", a.mode(), 2);
        check.same("a refused STEP answers none", a.step(71, 0), -2);
        check.same("mode() answers the last one's", a.mode(), 2);
    }

    private static void dIsTheTimeLessNow(Check check) {
        check.sentence("D is the time less NOW, which becomes the time.");
        AssistRows a = new AssistRows();
        Scene.see(a, 100, 0, 30, 5);
        a.step(20, 0);
        check.same("D of 0", a.track(0, 3), 10000);
        a.step(20, 0.5);
        check.same("0.5 less 0", a.track(0, 3), 10500);
        a.step(20, 0.75);
        check.same("0.75 less 0.5", a.track(0, 3), 10750);
        AssistRows b = new AssistRows();
        Scene.see(b, 100, 0, 30, 5);
        check.same("a refused STEP", b.step(71, 0.5), -2);
        b.step(20, 1);
        check.same("leaves NOW, so 1 less 0", b.track(0, 3), 11000);
    }

    private static void tracksMoveByTheNewSpeed(Check check) {
        check.sentence("X of each TRACK becomes X + (V - S) * D.");
        AssistRows a = new AssistRows();
        a.object(0, 100, 3, 30, 0);
        a.object(0, 50, -3, -10, 0);
        a.step(5, 2);
        check.same("one that is made in the STEP does not move", a.track(0, 3), 10000);
        check.same("one that is made in the STEP does not move", a.track(1, 3), 5000);
        a.step(20, 2.5);
        check.same("ahead by (30 - 20) * 0.5", a.track(0, 3), 10500);
        check.same("nearer by (-10 - 20) * 0.5", a.track(1, 3), 3500);
        check.same("Y stays", a.track(0, 4), 300);
        check.same("V stays", a.track(1, 5), -1000);
        a.step(30, 3.5);
        check.same("as fast as it", a.track(0, 3), 10500);
        AssistRows b = Scene.tracksAt(50);
        b.object(0, 36, 0, 0, 1);
        b.step(10, 1);
        check.same("it moves before it is joined", b.track(0, 3), 3800);
    }

    /** The mode of a step of one second at this speed; at 20 a sure track of speed 10 comes to 0. */
    private static int leadThatMoves(double speed) {
        AssistRows a = Scene.withTrack(10, 0, 10, 10);
        Scene.see(a, 10, 0, 10, 10);
        a.driver(2, 1);
        return a.step(speed, 1);
    }

    /** What a point works out is there for the points after it in the same step. */
    private static void inThisOrder(Check check) {
        check.sentence("A STEP, with a speed S and a time, does this, in this order");
        AssistRows a = Scene.tracksAt(50);
        a.object(0, 40, 0, 0, 1);
        a.step(10, 1);
        check.same("1 before 2: 40 is joined to 50 - 10", Scene.tracksOf(a), 1);
        AssistRows b = Scene.tracksAt(2);
        b.object(0, 3, 0, 0, 1);
        b.step(4, 1);
        check.same("2 before 3: -2 is below 0, joined to 3 it is not", b.track(0, 3), 50);
        check.same("near enough, it would be the LEAD", leadThatMoves(19), 1);
        check.same("3 before 4: gone in this STEP it is none", leadThatMoves(Math.nextUp(20.0)), 0);
        AssistRows d = Scene.tracksAt(8);
        Scene.see(d, 8, 0, 0, 16);
        check.same("no LEAD", d.stage(), 0);
        Scene.see(d, 8, 0, 0, 16);
        check.same("4 before 5: LEFT of this STEP", d.stage(), 1);
        check.same("5 before 7: STAGE of this STEP", Scene.see(d, 8, 0, 0, 16), 3);
        check.same("5 before 8: STAGE of this STEP", d.wish(0), -4.0);
        AssistRows e = Scene.stopping(1);
        check.same("6 before 7: STOPPING of this STEP", e.mode(), 5);
        check.same("6 before 8: STOPPING of this STEP", e.wish(0), -2.0);
        AssistRows f = new AssistRows();
        f.limit(0, 60);
        for (int n = 0; n < 3; n++) {
            Scene.seeTwice(f, 60, 15, 10, 20, 0, 0);
        }
        check.same("2 before 7: DIFFERING of this STEP", f.mode(), 6);
        check.same("7 before 8: the MODE of this STEP", f.wish(0), 0.0);
    }
}
