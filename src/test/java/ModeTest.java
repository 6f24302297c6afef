/** Promise 15: mode, that is point 7 of a step. */
final class ModeTest {
    public static void main(String[] args) {
        Check check = new Check("ModeTest");
        ofTheLastStep(check);
        differing3OrMore(check);
        stopping(check);
        off15OrMore(check);
        handOverWasAsked(check);
        stage2Or3(check);
        pedalOrBrakeAbove0(check);
        thereIsALead(check);
        otherwise0(check);
        theFirstThatFits(check);
        check.end();
    }

    private static void ofTheLastStep(Check check) {
        check.sentence("The MODE of the last STEP, 0 at first.");
        AssistRows a = new AssistRows();
        check.same("at first", a.mode(), 0);
        a.driver(0, 1);
        check.same("told, but no STEP", a.mode(), 0);
        check.same("a STEP", a.step(10, 0), 2);
        check.same("of it", a.mode(), 2);
        a.driver(0, 0);
        check.same("told, but no STEP", a.mode(), 2);
        check.same("a refused STEP", a.step(10, 100001), -2);
        check.same("of the last one", a.mode(), 2);
        a.step(10, 0);
        check.same("of the next one", a.mode(), 0);
    }

    private static void differing3OrMore(Check check) {
        check.sentence("6 DIFFERING is 3 or more");
        AssistRows a = new AssistRows();
        for (int n = 1; n <= 5; n++) {
            int mode = Scene.seeTwice(a, 60, 15, 10, 20, 0, 0);
            check.same("DIFFERING is " + n, mode, n >= 3 ? 6 : 0);
        }
        check.same("DIFFERING is 0", a.step(0, 0), 0);
    }

    private static void stopping(Check check) {
        check.sentence("5 STOPPING");
        AssistRows a = Scene.stopping(1);
        check.same("STOPPING", a.mode(), 5);
        a.hands(true, 10);
        check.same("not OFF, yet STOPPING", a.step(1, 10), 5);
        check.same("no more", a.step(0, 10), 0);
    }

    private static void off15OrMore(Check check) {
        check.sentence("4 OFF is 15 or more");
        AssistRows a = new AssistRows();
        a.hands(false, 1);
        check.same("14.99..", a.step(1, Math.nextDown(16.0)), 0);
        check.same("15", a.step(1, 16), 4);
        check.same("more", a.step(1, 20), 4);
        a.hands(true, 20);
        check.same("ON", a.step(1, 20), 0);
    }

    private static void handOverWasAsked(Check check) {
        check.sentence("or a hand-over was asked");
        AssistRows a = new AssistRows();
        a.hands(false, 0);
        check.same("none was", a.step(1, 0), 0);
        a.handOver(3);
        check.same("one was, for later", a.step(1, 0), 4);
        a.hands(true, 0);
        check.same("it is over in the same STEP", a.step(1, 0), 0);
    }

    private static void stage2Or3(Check check) {
        check.sentence("3 STAGE is 2 or 3");
        AssistRows a = Scene.withTrack(10, 0, 0, 20);
        check.same("STAGE 1", a.stage(), 1);
        check.same("STAGE 1", a.mode(), 1);
        check.same("STAGE 2", Scene.see(a, 10, 0, 0, 20), 3);
        check.same("STAGE 2", a.stage(), 2);
        check.same("STAGE 3", Scene.see(a, 10, 0, 0, 20), 3);
        check.same("STAGE 3", a.stage(), 3);
        check.same("STAGE 0", Scene.see(a, 10, 0, 0, 0), 1);
    }

    private static void pedalOrBrakeAbove0(Check check) {
        check.sentence("2 PEDAL or BRAKE is above 0");
        for (int kind = 0; kind < 2; kind++) {
            AssistRows a = new AssistRows();
            a.driver(kind, 0);
            check.same("0", a.step(10, 0), 0);
            a.driver(kind, -0.0);
            check.same("0 with a sign", a.step(10, 0), 0);
            a.driver(kind, Double.MIN_VALUE);
            check.same("above", a.step(10, 0), 2);
            a.driver(1 - kind, 1);
            check.same("both", a.step(10, 0), 2);
        }
        AssistRows b = new AssistRows();
        b.driver(2, 1);
        check.same("STEER alone is neither", b.step(10, 0), 0);
    }

    private static void thereIsALead(Check check) {
        check.sentence("1 there is a LEAD");
        check.same("SURE and in the LANE", Scene.withTrack(60, 1.75, 10, 10).mode(), 1);
        check.same("beside the LANE", Scene.withTrack(60, Math.nextUp(1.75), 10, 10).mode(), 0);
        check.same("at X 0", Scene.withTrack(0, 0, 10, 10).mode(), 1);
    }

    private static void otherwise0(Check check) {
        check.sentence("otherwise 0.");
        AssistRows a = new AssistRows();
        check.same("nothing", a.step(0, 0), 0);
        check.same("a TRACK that is no LEAD", Scene.see(a, 60, 0, 10, 10), 0);
        check.same("hands just off", new AssistRows().hands(false, 0) + a.step(70, 100000), 1);
    }

    /** All conditions hold at once and are taken away from the first one to the last. */
    private static void theFirstThatFits(Check check) {
        check.sentence("THE MODE, the first that fits");
        AssistRows a = Scene.stopping(20);
        a.driver(0, 1);
        for (int n = 0; n < 3; n++) {
            Scene.seeTwice(a, 10, 0, 0, 6, 20, 10);
        }
        Scene.seeTwice(a, 10, 0, 0, 6, 20, 10);
        check.same("6 before 5, 3, 2 and 1", a.mode(), 6);
        check.same("in STAGE 3", a.stage(), 3);
        seeAlike(a);
        check.same("5 before 3, 2 and 1", a.mode(), 5);
        endStopping(a);
        a.hands(false, 10);
        a.handOver(10);
        seeAlike(a);
        seeAlike(a);
        check.same("STAGE 2 is there", a.stage(), 2);
        check.same("4 before 3, 2 and 1", a.mode(), 4);
        a.hands(true, 10);
        seeAlike(a);
        check.same("3 before 2 and 1", a.mode(), 3);
        a.driver(2, 1);
        seeAlike(a);
        check.same("2 before 1", a.mode(), 2);
        a.driver(0, 0);
        seeAlike(a);
        check.same("1 before 0", a.mode(), 1);
        sixBeforeFour(check);
        fiveBeforeFour(check);
    }

    private static void seeAlike(AssistRows a) {
        Scene.seeTwice(a, 10, 0, 0, 0, 20, 10);
    }

    private static void endStopping(AssistRows a) {
        a.hands(true, 10);
        Scene.seeTwice(a, 10, 0, 0, 0, 0, 10);
    }

    private static void sixBeforeFour(Check check) {
        AssistRows a = new AssistRows();
        a.hands(false, 0);
        for (int n = 0; n < 3; n++) {
            Scene.seeTwice(a, 60, 15, 10, 20, 0, 15);
        }
        check.same("6 before 4", a.mode(), 6);
        check.same("4 was there", a.step(0, 15), 4);
    }

    private static void fiveBeforeFour(Check check) {
        AssistRows a = new AssistRows();
        a.hands(false, 0);
        check.same("4", a.step(1, 39), 4);
        check.same("5 before 4", a.step(1, 40), 5);
    }
}
