/** Point 2 of a step: sensors that differ on a track. */
final class DifferTest {
    public static void main(String[] args) {
        Check check = new Check("DifferTest");
        above5(check);
        bothInOneStep(check);
        ofWhatWasTold(check);
        oneMoreInAStep(check);
        onOneThatGoes(check);
        otherwise0(check);
        check.end();
    }

    /** Far aside, so that no lead is met; the mode is 6 if the sensors differed in each of the steps. */
    private static int modeAfter(int steps, double v0, double v1) {
        AssistRows a = new AssistRows();
        for (int n = 0; n < steps; n++) {
            Scene.seeTwice(a, 60, 15, v0, v1, 0, 0);
        }
        return a.mode();
    }

    private static void above5(Check check) {
        check.sentence("with |v - v'| above 5: they DIFFER");
        check.same("5", modeAfter(3, 10, 15), 0);
        check.same("more", modeAfter(3, 10, Math.nextUp(15.0)), 6);
        check.same("5 the other way", modeAfter(3, 15, 10), 0);
        check.same("more", modeAfter(3, Math.nextUp(15.0), 10), 6);
        check.same("the least and the most", modeAfter(3, -10, 70), 6);
        check.same("the same", modeAfter(3, 10, 10), 0);
    }

    private static void bothInOneStep(Check check) {
        check.sentence("BOTH SENSORS joined to one TRACK (or the first one made it) in a STEP");
        check.same("made in the first of three, joined in two", modeAfter(3, 10, 20), 6);
        check.same("made in the first of two", modeAfter(2, 10, 20), 0);
        AssistRows a = new AssistRows();
        Scene.see(a, 60, 15, 10, 0);
        for (int n = 0; n < 2; n++) {
            Scene.seeTwice(a, 60, 15, 10, 20, 0, 0);
        }
        check.same("joined twice", a.mode(), 0);
        Scene.seeTwice(a, 60, 15, 10, 20, 0, 0);
        check.same("joined three times", a.mode(), 6);
        AssistRows b = new AssistRows();
        for (int n = 0; n < 8; n++) {
            b.object(n % 2, 60, 15, n % 2 == 0 ? 10 : 20, 0);
            b.step(0, 0);
        }
        check.same("each in a STEP of its own", b.mode(), 0);
        AssistRows c = new AssistRows();
        for (int n = 0; n < 4; n++) {
            c.object(0, 60, 15, 10, 0);
            c.object(1, 60, 10, 20, 0);
            c.step(0, 0);
        }
        check.same("on two TRACKS", c.mode(), 0);
        AssistRows d = new AssistRows();
        for (int n = 0; n < 4; n++) {
            d.object(1, 60, 15, 10, 0);
            d.object(1, 60, 15, 20, 0);
            d.step(0, 0);
        }
        check.same("two of one SENSOR", d.mode(), 0);
    }

    private static void ofWhatWasTold(Check check) {
        check.sentence("with |v - v'| above 5: they DIFFER");
        AssistRows a = new AssistRows();
        Scene.see(a, 60, 15, 70, 0);
        for (int n = 0; n < 3; n++) {
            Scene.seeTwice(a, 60, 15, 10, 15, 0, 0);
        }
        check.same("V of the TRACK is far from both", a.mode(), 0);
        AssistRows b = new AssistRows();
        Scene.see(b, 60, 15, 10, 0);
        for (int n = 0; n < 3; n++) {
            Scene.seeTwice(b, 60, 15, 7, 12.5, 0, 0);
        }
        check.same("V of the TRACK is between them", b.mode(), 6);
    }

    /** Two things in each step, on each of which the sensors differ or not. */
    private static void seeTwo(AssistRows a, boolean onFirst, boolean onSecond) {
        a.object(0, 60, 15, 10, 0);
        a.object(0, 100, 15, 10, 0);
        a.object(1, 60, 15, onFirst ? 20 : 10, 0);
        a.object(1, 100, 15, onSecond ? 20 : 10, 0);
        a.step(0, 0);
    }

    private static void oneMoreInAStep(Check check) {
        check.sentence("DIFFERING is one more in a STEP in which they DIFFER on some TRACK");
        AssistRows a = new AssistRows();
        seeTwo(a, true, true);
        seeTwo(a, true, true);
        check.same("on two TRACKS it is one more as well", a.mode(), 0);
        seeTwo(a, true, true);
        check.same("the third", a.mode(), 6);
        AssistRows b = new AssistRows();
        seeTwo(b, true, false);
        seeTwo(b, false, true);
        check.same("the second, on another TRACK", b.mode(), 0);
        seeTwo(b, true, false);
        check.same("the third", b.mode(), 6);
        seeTwo(b, false, true);
        check.same("the fourth", b.mode(), 6);
    }

    /** A thing at 1 is 5 below 0 when the sensors differ on it for the third time, and gone at the end of the step. */
    private static void onOneThatGoes(Check check) {
        check.sentence("DIFFERING is one more in a STEP in which they DIFFER on some TRACK");
        AssistRows a = new AssistRows();
        for (int n = 0; n < 2; n++) {
            a.object(0, 1, 10, 0, 0);
            Scene.seeTwice(a, 60, 15, 10, 20, 0, 0);
        }
        check.same("the third", Scene.seeTwice(a, 0, 10, 10, 20, 8, 0.75), 6);
        check.same("it has gone", a.track(0, 0), 0);
        check.same("nothing was made instead", Scene.tracksOf(a), 1);
    }

    private static void otherwise0(Check check) {
        check.sentence("otherwise 0.");
        AssistRows a = new AssistRows();
        for (int n = 0; n < 3; n++) {
            Scene.seeTwice(a, 60, 15, 10, 20, 0, 0);
        }
        check.same("three", a.mode(), 6);
        a.step(0, 0);
        check.same("a STEP without MEASURES", a.mode(), 0);
        for (int n = 0; n < 2; n++) {
            Scene.seeTwice(a, 60, 15, 10, 20, 0, 0);
            check.same("counted anew", a.mode(), 0);
        }
        Scene.seeTwice(a, 60, 15, 10, 15, 0, 0);
        check.same("a STEP in which they do not DIFFER", a.mode(), 0);
        for (int n = 0; n < 2; n++) {
            Scene.seeTwice(a, 60, 15, 10, 20, 0, 0);
            check.same("counted anew", a.mode(), 0);
        }
        Scene.seeTwice(a, 60, 15, 10, 20, 0, 0);
        check.same("three again", a.mode(), 6);
    }
}
