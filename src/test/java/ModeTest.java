/** Promise 15: mode, that is point 7 of a step. */
final class ModeTest {
    public static void main(String[] args) {
        Check check = new Check("ModeTest");
        each(check);
        order(check);
        ofTheLastStep(check);
        check.end();
    }

    private static void each(Check check) {
        AssistRows a = new AssistRows();
        check.same("new", a.mode(), 0);
        a.step(10, 0);
        check.same("free", a.mode(), 0);
        check.same("a lead", Scene.withTrack(60, 0, 10, 10).mode(), 1);
        check.same("stage 1 alone", Scene.withTrack(40, 0, 0, 20).mode(), 1);
        AssistRows b = Scene.withTrack(10, 0, 0, 20);
        b.driver(0, 1);
        check.same("stage 2", Scene.see(b, 10, 0, 0, 20), 3);
        check.same("stage 3", Scene.see(b, 10, 0, 0, 20), 3);
        a.driver(0, Double.MIN_VALUE);
        check.same("pedal", a.step(10, 0), 2);
        a.driver(0, 0);
        a.driver(1, Double.MIN_VALUE);
        check.same("brake", a.step(10, 0), 2);
        check.same("stopping", Scene.stopping(1).mode(), 5);
    }

    /** All at once, taken away from the first that fits to the last. */
    private static void order(Check check) {
        AssistRows a = Scene.stopping(20);
        a.driver(0, 1);
        for (int n = 0; n < 4; n++) {
            both(a, 0, 6);
        }
        check.same("sensors differ", a.step(20, 10), 5);
        both(a, 0, 6);
        both(a, 0, 6);
        check.same("not yet for the third time", a.mode(), 5);
        both(a, 0, 6);
        check.same("sensors differ", a.mode(), 6);
        check.same("they stop all the same", a.wish(0), -9.0);
        check.same("in stage 3", a.stage(), 3);
        both(a, 0, 0);
        check.same("stopping", a.mode(), 5);
        a.hands(true, 10);
        a.object(0, 10, 0, 0, 10);
        a.step(0, 10);
        a.hands(false, 10);
        a.handOver(10);
        both(a, 0, 0);
        both(a, 0, 0);
        check.same("stage 2 while a hand-over was asked", a.stage(), 2);
        check.same("a hand-over was asked", a.mode(), 4);
        a.hands(true, 10);
        both(a, 0, 0);
        check.same("stage 3", a.stage(), 3);
        check.same("braking in stage 3", a.mode(), 3);
        a.driver(2, 1);
        both(a, 0, 0);
        check.same("the pedal", a.mode(), 2);
        a.driver(0, 0);
        both(a, 0, 0);
        check.same("the lead", a.mode(), 1);
    }

    private static void both(AssistRows a, double v0, double v1) {
        a.object(0, 10, 0, v0, 10);
        a.object(1, 10, 0, v1, 10);
        a.step(20, 10);
    }

    private static void ofTheLastStep(Check check) {
        AssistRows a = Scene.withTrack(60, 0, 10, 10);
        a.driver(0, 1);
        a.hands(false, 0);
        a.handOver(0);
        check.same("as it was", a.mode(), 1);
        check.same("as step() answers", a.step(10, 0), 4);
        check.same("as step() answered", a.mode(), 4);
        a.step(99, 0);
        check.same("a refused step changes nothing", a.mode(), 4);
    }
}
